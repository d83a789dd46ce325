import java.io.IOException;
import java.lang.reflect.Constructor;
import java.lang.reflect.Field;
import java.lang.reflect.Method;
import java.lang.reflect.Modifier;
import java.nio.charset.StandardCharsets;
import java.nio.file.Files;
import java.nio.file.Path;
import java.util.HashSet;
import java.util.List;
import java.util.Set;
import java.util.TreeSet;
import java.util.regex.Matcher;
import java.util.regex.Pattern;

/** The public face, the constants, and what of LANGUAGE.md can be read off the class and its file. */
public final class FaceTest {
    private static final Set<String> FACE = Set.of(
        "write 1", "wipe 0", "fault 0", "lay 0", "person 2", "owes 2", "place 1", "would 1",
        "pass 1", "let 2", "leave 1", "come 1", "pay 2", "undo 0",
        "behind 3", "served 1", "stand 3", "haste 2", "clear 0", "miss 1",
        "see 3", "forget 0", "orders 1", "kinds 1",
        "rain 4", "day 3", "keep 0", "back 0", "count 1");
    private static final List<String> NOT_IN_THE_FILE = List.of(
        "\\bimport\\b", "\\bpackage\\b", "\\bthrows?\\b", "\\btry\\b", "\\bcatch\\b", "\\bfinally\\b",
        "\\bsynchronized\\b", "\\bassert\\b", "\\brecord\\b", "->", "::", "\\bSystem\\.(?!arraycopy)",
        "\\bMath\\.\\w+Exact\\b", "\\bwhile \\(true\\)", "\\bfor \\(;;\\)", "[^\\x00-\\x7f]");
    private static final Check CHECK = new Check();

    public static void main(String[] args) throws IOException {
        methods();
        othersAreHidden();
        constants();
        nested();
        file(Files.readString(Path.of("src/main/java/KerbQueue.java"), StandardCharsets.UTF_8));
        CHECK.end();
    }

    private static void methods() {
        Set<String> found = new TreeSet<>();
        for (Method method : KerbQueue.class.getDeclaredMethods()) {
            if (!Modifier.isPrivate(method.getModifiers())) {
                found.add(method.getName() + " " + method.getParameterCount());
                CHECK.due(method + " is public", method.getModifiers(), Modifier.PUBLIC);
                CHECK.due(method + " answers an int", method.getReturnType() == int.class ? 1 : 0, 1);
                for (Class<?> type : method.getParameterTypes()) {
                    CHECK.due(method + " takes ints", type == int.class ? 1 : 0, 1);
                }
            }
        }
        CHECK.due("the face is " + found, found.equals(FACE) ? 1 : 0, 1);
    }

    private static void othersAreHidden() {
        CHECK.due("the class is public and final", KerbQueue.class.getModifiers(), Modifier.PUBLIC | Modifier.FINAL);
        Constructor<?>[] constructors = KerbQueue.class.getDeclaredConstructors();
        CHECK.due("how many constructors", constructors.length, 1);
        CHECK.due("it is public", constructors[0].getModifiers(), Modifier.PUBLIC);
        CHECK.due("it takes nothing", constructors[0].getParameterCount(), 0);
        for (Field field : KerbQueue.class.getDeclaredFields()) {
            boolean constant = Set.of("BAD", "NO", "FULL", "NONE").contains(field.getName());
            int wanted = constant ? Modifier.PUBLIC : Modifier.PRIVATE;
            CHECK.due(field + " is as open as it should be", field.getModifiers() & 7, wanted);
            CHECK.due(field + " is final", Modifier.isFinal(field.getModifiers()) ? 1 : 0, 1);
        }
    }

    private static void constants() {
        CHECK.due("BAD", KerbQueue.BAD, -1);
        CHECK.due("NO", KerbQueue.NO, -2);
        CHECK.due("FULL", KerbQueue.FULL, -3);
        CHECK.due("NONE", KerbQueue.NONE, -4);
    }

    private static void nested() {
        Set<String> names = new HashSet<>();
        for (String method : FACE) {
            names.add(method.substring(0, method.indexOf(' ')));
        }
        Class<?>[] classes = KerbQueue.class.getDeclaredClasses();
        CHECK.due("some twelve classes at most", Math.max(classes.length, 11), 11);
        for (Class<?> one : classes) {
            CHECK.due(one + " is static", Modifier.isStatic(one.getModifiers()) ? 1 : 0, 1);
            CHECK.due(one + " is hidden", one.getModifiers() & (Modifier.PUBLIC | Modifier.PROTECTED), 0);
            for (Method method : one.getDeclaredMethods()) {
                CHECK.due(method + " bears a name of the face", names.contains(method.getName()) ? 1 : 0, 0);
                CHECK.due(method + " takes seven at most", method.getParameterCount() <= 7 ? 1 : 0, 1);
            }
            for (Field field : one.getDeclaredFields()) {
                boolean changing = Modifier.isStatic(field.getModifiers()) && !Modifier.isFinal(field.getModifiers());
                CHECK.due(field + " is static state", changing ? 1 : 0, 0);
            }
        }
    }

    private static void file(String text) {
        for (String pattern : NOT_IN_THE_FILE) {
            Matcher matcher = Pattern.compile(pattern).matcher(text);
            CHECK.due("the file holds " + pattern, matcher.find() ? 1 : 0, 0);
        }
    }
}
