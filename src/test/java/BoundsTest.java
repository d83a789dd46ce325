import java.io.IOException;
import java.lang.reflect.InvocationTargetException;
import java.lang.reflect.Method;
import java.nio.file.Path;
import java.util.List;
import java.util.Set;
import java.util.TreeSet;

/**
 * Runs each test of a sentence that names a boundary case, and sees to it that the sentence stands
 * in the document and that no such sentence of the document is without a test.
 */
public final class BoundsTest {
    private static final List<Bounds> GROUPS = List.of(
        new TextBounds(), new StandingBounds(), new ActsBounds(), new ComingBounds(),
        new SeenBounds(), new RainDayBounds(), new AnswerBounds());

    public static void main(String[] args) throws IOException, ReflectiveOperationException {
        Document document = new Document(Path.of("../shared/DOC.md"));
        Set<Integer> promises = new TreeSet<>();
        int tests = 0;
        int wrong = 0;
        for (Bounds group : GROUPS) {
            for (Method method : group.getClass().getDeclaredMethods()) {
                Of of = method.getAnnotation(Of.class);
                if (of != null) {
                    run(group, method, of, document);
                    promises.add(of.promise());
                    tests++;
                }
            }
            wrong += group.wrong();
        }
        List<String> unquoted = document.unquoted();
        for (String words : unquoted) {
            System.out.println("no test quotes: .." + words + "..");
        }
        System.out.println(tests + " tests of sentences that name a boundary case, of " + promises.size() + " promises");
        if (wrong > 0 || !unquoted.isEmpty() || promises.size() != 30) {
            System.exit(1);
        }
    }

    private static void run(Bounds group, Method test, Of of, Document document) throws ReflectiveOperationException {
        group.begin("promise " + of.promise() + ", \"" + of.sentence() + "\" (" + test.getName() + ")");
        if (!document.quote(of.promise(), of.sentence())) {
            group.fail("this sentence is not in the document");
        }
        try {
            test.invoke(group);
        } catch (InvocationTargetException thrown) {
            group.fail("threw " + thrown.getCause());
        }
        if (group.done() == 0) {
            group.fail("nothing was compared");
        }
    }
}
