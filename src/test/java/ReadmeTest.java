import java.io.File;
import java.io.IOException;
import java.lang.reflect.Method;
import java.nio.charset.StandardCharsets;
import java.nio.file.Files;
import java.nio.file.Path;
import java.util.regex.Matcher;
import java.util.regex.Pattern;

/** README.md tells the public face and the words as the document does, and its example is true. */
public final class ReadmeTest {
    private static final Pattern PROMISE =
        Pattern.compile("## Promise (\\d+): [^\\n]*\\n\\n(`[^`]+`): ([^\\n]+)\\n");
    private static final Pattern TEXT_LINE =
        Pattern.compile("for \\(char letter : \"([^\"]*)\"\\.toCharArray\\(\\)\\) queue\\.write\\(letter\\);");
    private static final Pattern CALL_LINE =
        Pattern.compile("queue\\.(\\w+)\\(([-\\d, ]*)\\); +// (-?\\d+|BAD|NO|FULL|NONE)\\b.*");
    private static final Check CHECK = new Check();

    public static void main(String[] args) throws IOException, ReflectiveOperationException {
        String document = read("../shared/DOC.md");
        String readme = read("README.md");
        face(document, readme);
        promises(document, readme);
        words(document, readme);
        example(readme);
        tests(readme);
        CHECK.end();
    }

    private static String read(String file) throws IOException {
        return Files.readString(Path.of(file), StandardCharsets.UTF_8);
    }

    private static void holds(String what, boolean so) {
        CHECK.due(what, so ? 1 : 0, 1);
    }

    private static String between(String text, String start, String end) {
        int from = text.indexOf(start);
        int to = from < 0 ? -1 : text.indexOf(end, from);
        holds("\"" + start + "\" and \"" + end + "\" behind it are there", to >= 0);
        return to < 0 ? "" : text.substring(from, to);
    }

    private static void face(String document, String readme) {
        String face = between(document, "```java\npublic final class KerbQueue", "\n```\n");
        holds("the face is the document's", readme.contains(face + "\n```\n"));
    }

    private static void promises(String document, String readme) {
        Matcher promise = PROMISE.matcher(document);
        int number = 0;
        while (promise.find()) {
            number++;
            CHECK.due("the promise's number", Integer.parseInt(promise.group(1)), number);
            String row = "| " + number + " | " + promise.group(2) + " | " + promise.group(3) + " |\n";
            holds("there is the row " + row.trim(), readme.contains(row));
        }
        CHECK.due("how many promises", number, 30);
    }

    private static void words(String document, String readme) {
        String told = between(document, "A TEXT is letters", "## The public face")
            + between(document, "LAID is a TEXT", "Ahead of the calls `write`");
        told = told.replaceAll("```(text)?|========( \\d)?", " ");
        StringBuilder quoted = new StringBuilder();
        for (String line : readme.split("\n")) {
            if (line.startsWith(">")) {
                quoted.append(line.substring(1)).append(' ');
            }
        }
        CHECK.begin("the words in capitals");
        String due = told.replaceAll("\\s+", " ").trim();
        String got = quoted.toString().replaceAll("\\s+", " ").trim();
        for (int i = 0; i < due.length(); i += 40) {
            String part = due.substring(i, Math.min(due.length(), i + 40));
            if (!got.startsWith(part, i)) {
                CHECK.fail("they part from the document's at: " + part);
                return;
            }
        }
        CHECK.due("how long they are", got.length(), due.length());
    }

    private static void example(String readme) throws ReflectiveOperationException {
        KerbQueue queue = new KerbQueue();
        int calls = 0;
        CHECK.begin("the example");
        for (String line : between(readme, "KerbQueue queue = new KerbQueue();", "```").split("\n")) {
            Matcher text = TEXT_LINE.matcher(line);
            Matcher call = CALL_LINE.matcher(line);
            if (text.matches()) {
                Check.write(queue, text.group(1));
            } else if (call.matches()) {
                CHECK.due(line, answer(queue, call.group(1), call.group(2)), wanted(call.group(3)));
                calls++;
            } else if (!line.equals("KerbQueue queue = new KerbQueue();")) {
                CHECK.fail("it cannot be read: " + line);
            }
        }
        holds("some calls are told", calls > 9);
    }

    private static int answer(KerbQueue queue, String name, String numbers) throws ReflectiveOperationException {
        String[] told = numbers.isEmpty() ? new String[0] : numbers.split(", ");
        Object[] given = new Object[told.length];
        for (int i = 0; i < told.length; i++) {
            given[i] = Integer.valueOf(told[i]);
        }
        for (Method method : KerbQueue.class.getMethods()) {
            if (method.getName().equals(name) && method.getParameterCount() == given.length) {
                return (Integer) method.invoke(queue, given);
            }
        }
        throw new NoSuchMethodException(name);
    }

    private static int wanted(String told) throws ReflectiveOperationException {
        return Character.isLetter(told.charAt(0)) ? KerbQueue.class.getField(told).getInt(null) : Integer.parseInt(told);
    }

    private static void tests(String readme) {
        CHECK.begin("the tests");
        String[] files = new File("src/test/java").list();
        int tests = 0;
        for (String file : files == null ? new String[0] : files) {
            if (file.endsWith("Test.java")) {
                holds(file + " is named", readme.contains("| `" + file.replace(".java", "") + "` | "));
                tests++;
            }
        }
        holds("there are some", tests > 0);
    }
}
