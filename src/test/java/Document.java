import java.io.IOException;
import java.nio.charset.StandardCharsets;
import java.nio.file.Files;
import java.nio.file.Path;
import java.util.ArrayList;
import java.util.List;
import java.util.regex.Matcher;
import java.util.regex.Pattern;

/** The document, and which of its letters the tests have quoted. */
final class Document {
    private static final String FIRST_PROMISE = "## Promise 1:";
    private static final String BEHIND_THE_PROMISES = "## Not promised";

    /** Words by which a sentence names a boundary case. */
    private static final Pattern BOUNDARY = Pattern.compile(
        "\\b(BAD|NO|NONE|FULL|none|nobody|nothing|without|empty|alike|unlike|never|always|beyond|modulo|once"
        + "|first|last|lowest|latest|fewest|most|least|alone|one or two|as many|as much|so much|whatever)\\b"
        + "|\\d+ to \\d+|\\d+ at most");

    private final String text;
    private final boolean[] quoted;

    Document(Path file) throws IOException {
        text = Files.readString(file, StandardCharsets.UTF_8);
        quoted = new boolean[text.length()];
    }

    /** Whether the sentence stands in the promise's own section, or ahead of all promises. */
    boolean quote(int promise, String sentence) {
        int start = text.indexOf("## Promise " + promise + ":");
        int end = text.indexOf("\n## ", start + 1);
        boolean inSection = mark(start, end, sentence);
        return mark(0, text.indexOf(FIRST_PROMISE), sentence) || inSection;
    }

    private boolean mark(int start, int end, String sentence) {
        boolean found = false;
        int at = text.indexOf(sentence, start);
        while (at >= 0 && at + sentence.length() <= end) {
            java.util.Arrays.fill(quoted, at, at + sentence.length(), true);
            found = true;
            at = text.indexOf(sentence, at + 1);
        }
        return found;
    }

    /** Each word that names a boundary case and is in no quoted sentence, with what stands about it. */
    List<String> unquoted() {
        List<String> left = new ArrayList<>();
        Matcher matcher = BOUNDARY.matcher(text);
        matcher.region(text.indexOf("1 A TEXT is letters"), text.indexOf(BEHIND_THE_PROMISES));
        while (matcher.find()) {
            if (!quoted[matcher.start()] && !isCode(matcher.start())) {
                int from = Math.max(0, matcher.start() - 30);
                int to = Math.min(text.length(), matcher.end() + 30);
                left.add(text.substring(from, to).replace('\n', ' '));
            }
        }
        return left;
    }

    // The face is told as Java: its names are no sentences.
    private boolean isCode(int at) {
        return at > text.indexOf("```java") && at < text.indexOf("## Terms");
    }
}
