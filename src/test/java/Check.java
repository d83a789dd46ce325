/** Compares answers with what is due, and counts those that differ. */
class Check {
    private String about = "";
    private int done;
    private int wrong;

    /** What the next checks are about: it is told with each answer that differs. */
    void begin(String what) {
        about = what + ": ";
        done = 0;
    }

    /** How many checks there were since the last beginning. */
    int done() {
        return done;
    }

    int wrong() {
        return wrong;
    }

    void due(String call, long got, long want) {
        if (got != want) {
            fail(call + " answered " + got + ", due is " + want);
        }
        done++;
    }

    void fail(String what) {
        wrong++;
        System.out.println(about + what);
    }

    /** A new object whose TEXT this is. */
    static KerbQueue written(String text) {
        KerbQueue queue = new KerbQueue();
        write(queue, text);
        return queue;
    }

    static void write(KerbQueue queue, String text) {
        for (int i = 0; i < text.length(); i++) {
            queue.write(text.charAt(i));
        }
    }

    /** A new object on which this TEXT was LAID. */
    KerbQueue laid(String text) {
        KerbQueue queue = written(text);
        if (queue.lay() < 1) {
            fail("not laid: " + text);
        }
        return queue;
    }

    /** Who stands in the QUEUE, 0 ahead. */
    void line(String when, KerbQueue queue, int... persons) {
        due(when + ": how many in the queue", queue.count(3), persons.length);
        for (int k = 0; k < 7; k++) {
            due(when + ": place(" + k + ")", queue.place(k), k < persons.length ? persons[k] : KerbQueue.NONE);
        }
    }

    /** DUES of 0, 1, .. */
    void dues(String when, KerbQueue queue, int... dues) {
        for (int p = 0; p < dues.length; p++) {
            due(when + ": person(" + p + ", 6)", queue.person(p, 6), 200000 + dues[p]);
        }
    }

    void end() {
        if (wrong != 0) {
            System.out.println(wrong + " answers are not as due");
            System.exit(1);
        }
    }
}
