import java.util.function.IntSupplier;

/** What the tests of boundary cases share: the answers' names, and calls that are refused. */
abstract class Bounds extends Check {
    static final int BAD = KerbQueue.BAD;
    static final int NO = KerbQueue.NO;
    static final int FULL = KerbQueue.FULL;
    static final int NONE = KerbQueue.NONE;
    static final int LEAST = Integer.MIN_VALUE;
    static final int MOST = Integer.MAX_VALUE;

    /** A MEEK PERSON without money, of nine letters. */
    static final String MEEK = "p1,1,9,0;";
    static final String MEEK_THREE = MEEK.repeat(3) + "s9;";
    static final String MEEK_SEVEN = MEEK.repeat(7) + "s9;";

    /** The call answers so, and what stands is not changed by it. */
    void refused(KerbQueue queue, String call, IntSupplier answer, int want) {
        String ahead = glance(queue);
        due(call, answer.getAsInt(), want);
        String behind = glance(queue);
        if (!behind.equals(ahead)) {
            fail(call + " changed " + ahead + " to " + behind);
        }
    }

    /** What stands, in few calls, since an object is good for 512 alone. */
    private static String glance(KerbQueue queue) {
        StringBuilder all = new StringBuilder();
        for (int what = 0; what <= 10; what++) {
            all.append(queue.count(what)).append(' ');
        }
        int persons = queue.count(0);
        for (int p = 0; p < persons; p++) {
            all.append(queue.place(p)).append(' ');
            all.append(queue.person(p, 3)).append(' ');
            all.append(queue.person(p, 5)).append(' ');
            all.append(queue.person(p, 6)).append(' ');
        }
        return all.toString();
    }

    /** All that stands, but THE TEXT's letters, and what is SEEN and KEPT beyond its number. */
    static String picture(KerbQueue queue) {
        StringBuilder all = new StringBuilder(glance(queue));
        int persons = queue.count(0);
        for (int p = 0; p < persons; p++) {
            for (int what = 0; what <= 6; what++) {
                all.append(queue.person(p, what)).append(' ');
            }
            for (int q = 0; q < persons; q++) {
                all.append(queue.owes(p, q)).append(' ');
            }
        }
        return all.toString();
    }

    /** Minutes go by till so many have. */
    static void passTo(KerbQueue queue, int minutes) {
        for (int i = 0; i < 42 && queue.count(2) < minutes; i++) {
            queue.pass(Math.min(24, minutes - queue.count(2)));
        }
    }
}
