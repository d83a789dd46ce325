/** Promises 1 to 5: a new object, write, wipe, fault, lay. */
public final class TextTest {
    private static final int BAD = KerbQueue.BAD;
    private static final int NO = KerbQueue.NO;
    private static final int FULL = KerbQueue.FULL;
    private static final int NONE = KerbQueue.NONE;
    private static final Check CHECK = new Check();

    public static void main(String[] args) {
        newObject();
        writing();
        wiping();
        textsWithoutFault();
        faultsOfForm();
        faultsOfPersons();
        faultsOfService();
        faultsOfDebts();
        laying();
        layingForgetsAllElse();
        notLaid();
        CHECK.end();
    }

    // p0,5,3,20;p1,9,2,4;p2,7,2,30;p3,12,4,15;p0,3,1,9;p2,15,5,60;s4;d5,1,6;d2,0,3;
    private static void newObject() {
        KerbQueue x = new KerbQueue();
        int[][] told = {{0, 5, 3, 20}, {1, 9, 2, 4}, {2, 7, 2, 30}, {3, 12, 4, 15}, {0, 3, 1, 9}, {2, 15, 5, 60}};
        for (int p = 0; p < 6; p++) {
            for (int what = 0; what < 4; what++) {
                CHECK.due("new person(" + p + ", " + what + ")", x.person(p, what), told[p][what]);
            }
            CHECK.due("new person(" + p + ", 4)", x.person(p, 4), p);
            CHECK.due("new person(" + p + ", 5)", x.person(p, 5), 0);
        }
        for (int a = 0; a < 6; a++) {
            for (int b = 0; b < 6; b++) {
                if (a != b) {
                    int owed = a == 5 && b == 1 ? 6 : a == 2 && b == 0 ? 3 : 0;
                    CHECK.due("new owes(" + a + ", " + b + ")", x.owes(a, b), owed);
                }
            }
        }
        CHECK.line("new", x, 0, 1, 2, 3, 4, 5);
        int[] counts = {6, 4, 0, 6, 0, 0, 9, 0, 0, 0, 0};
        for (int what = 0; what < counts.length; what++) {
            CHECK.due("new count(" + what + ")", x.count(what), counts[what]);
        }
        CHECK.due("new fault()", x.fault(), NONE);
        CHECK.due("new undo()", x.undo(), NO);
        CHECK.due("new back()", x.back(), NO);
    }

    private static void writing() {
        KerbQueue x = new KerbQueue();
        CHECK.due("write(31)", x.write(31), BAD);
        CHECK.due("write(127)", x.write(127), BAD);
        CHECK.due("write(-1)", x.write(-1), BAD);
        CHECK.due("write(least)", x.write(Integer.MIN_VALUE), BAD);
        CHECK.due("write(most)", x.write(Integer.MAX_VALUE), BAD);
        CHECK.due("write(32)", x.write(32), 1);
        CHECK.due("write(126)", x.write(126), 2);
        for (int i = 3; i <= 200; i++) {
            CHECK.due("write, letter " + i, x.write('p'), i);
        }
        CHECK.due("write, letter 201", x.write('p'), FULL);
        CHECK.due("write(31) when full", x.write(31), BAD);
        CHECK.due("count(10) when full", x.count(10), 200);
    }

    private static void wiping() {
        KerbQueue x = new KerbQueue();
        CHECK.due("wipe() of nothing", x.wipe(), 0);
        Check.write(x, "p0,5,3,20;");
        CHECK.due("wipe()", x.wipe(), 10);
        CHECK.due("count(10) when wiped", x.count(10), 0);
        CHECK.due("wipe() again", x.wipe(), 0);
        CHECK.due("lay() when wiped", x.lay(), NO);
        Check.write(x, "p0,5");
        CHECK.due("what was wiped is not read on", x.fault(), 0);
    }

    private static void fault(String text, int want) {
        KerbQueue x = Check.written(text);
        CHECK.due("fault() of " + text, x.fault(), want);
        CHECK.due("fault() changes nothing: " + text, x.count(0) * 1000 + x.count(10), 6000 + text.length());
    }

    private static void textsWithoutFault() {
        fault("", NONE);
        fault("s4;", NONE);
        fault("s4;s1;s9;", NONE);
        fault("p0,0,1,0;", NONE);
        fault("p3,20,9,60;", NONE);
        fault("p03,05,01,00;", NONE);
        fault("s09;", NONE);
        fault("p0,1,1,1;p0,1,1,1;d0,1,0;d1,0,60;d0,1,07;d00,01,00;", NONE);
        fault("p0,1,1,1;p0,1,1,1;p0,1,1,1;p0,1,1,1;p0,1,1,1;p0,1,1,1;p0,1,1,1;d6,0,1;d0,6,1;", NONE);
    }

    private static void faultsOfForm() {
        fault("x", 0);
        fault(" p0,1,1,1;", 0);
        fault("P0,1,1,1;", 0);
        fault(";", 0);
        fault("4;", 0);
        fault("p", 0);
        fault("p;", 0);
        fault("p0", 0);
        fault("p0,1,1,1", 0);
        fault("p0,1,1;", 0);
        fault("p0,1,1,1,1;", 0);
        fault("p0,1,1,;", 0);
        fault("p0,1,1,1,;", 0);
        fault("p,1,1,1;", 0);
        fault("p0;1;1;1;", 0);
        fault("p0,1,1,001;", 0);
        fault("p0,1,1,-1;", 0);
        fault("p0,1, 1,1;", 0);
        fault("p 0,1,1,1;", 0);
        fault("s4", 0);
        fault("s4,", 0);
        fault("s4,4;", 0);
        fault("s;", 0);
        fault("s004;", 0);
        fault("p0,1,1,1;;", 9);
        fault("p0,1,1,1; ", 9);
        fault("p0,1,1,1;s3;q", 12);
        fault("p0,1,1,1;s3;p0,1,1,1;d0,1", 21);
        fault("p0,1,1,1;p0,1,1,1;d0,1;d0,1,1;", 18);
        fault("p0,1,1,1;p0,1,1,1;d0,1,1,1;", 18);
        fault("p0,1,1,1;p0,1,1,1;d0,1,001;", 18);
        fault("p0,1,1,1;s0;x", 9);
    }

    private static void faultsOfPersons() {
        fault("p4,1,1,1;", 0);
        fault("p0,21,1,1;", 0);
        fault("p0,1,0,1;", 0);
        fault("p0,1,10,1;", 0);
        fault("p0,1,1,61;", 0);
        fault("p0,20,9,60;p0,20,9,61;", 11);
        fault("p0,1,1,1;p0,1,1,1;p0,1,1,1;p0,1,1,1;p0,1,1,1;p0,1,1,1;p0,1,1,1;p0,1,1,1;", 63);
        fault("p0,1,1,1;p0,1,1,1;p0,1,1,1;s4;p0,1,1,1;p0,1,1,1;p0,1,1,1;p0,1,1,1;p0,1,1,1;", 66);
    }

    private static void faultsOfService() {
        fault("s0;", 0);
        fault("s00;", 0);
        fault("s10;", 0);
        fault("s4;s10;", 3);
    }

    private static void faultsOfDebts() {
        fault("d0,1,1;", 0);
        fault("p0,1,1,1;d0,0,1;", 9);
        fault("p0,1,1,1;d0,1,1;p0,1,1,1;", 9);
        fault("p0,1,1,1;d1,0,1;p0,1,1,1;", 9);
        fault("p0,1,1,1;p0,1,1,1;d0,1,61;", 18);
        fault("p0,1,1,1;p0,1,1,1;d0,2,1;", 18);
        fault("p0,1,1,1;p0,1,1,1;d2,0,1;", 18);
        fault("p0,1,1,1;p0,1,1,1;d1,1,1;", 18);
    }

    private static void laying() {
        KerbQueue x = Check.written("d0,1,1;");
        x.wipe();
        Check.write(x, "s7;p3,20,9,60;s2;p2,0,1,0;d0,1,5;d1,0,3;d0,1,9;p1,07,02,08;");
        CHECK.due("lay()", x.lay(), 3);
        int[][] told = {{3, 20, 9, 60, 0, 0}, {2, 0, 1, 0, 1, 0}, {1, 7, 2, 8, 2, 0}};
        for (int p = 0; p < 3; p++) {
            for (int what = 0; what < 6; what++) {
                CHECK.due("laid person(" + p + ", " + what + ")", x.person(p, what), told[p][what]);
            }
        }
        CHECK.due("the last of both counts", x.owes(0, 1), 9);
        CHECK.due("the other way is its own", x.owes(1, 0), 3);
        CHECK.due("0 without", x.owes(0, 2), 0);
        CHECK.due("the last s counts", x.count(1), 2);
        CHECK.due("a fourth is none", x.person(3, 0), BAD);
        CHECK.due("THE TEXT stays", x.count(10), 59);
        CHECK.due("lay() again", x.lay(), 3);
        CHECK.due("3 without an s", CHECK.laid("p0,1,1,1;").count(1), 3);
        CHECK.due("no debt without a d", CHECK.laid("p0,1,1,1;p1,1,1,1;").count(6), 0);
    }

    private static void layingForgetsAllElse() {
        KerbQueue x = new KerbQueue();
        x.see(0, 1, 200000);
        x.keep();
        x.pass(24);
        x.leave(5);
        x.keep();
        Check.write(x, "p0,1,1,1;p0,1,1,1;p0,1,1,1;p0,1,1,1;p0,1,1,1;p0,1,1,1;p0,1,1,1;");
        CHECK.due("lay() behind all that", x.lay(), 7);
        int[] counts = {7, 3, 0, 7, 0, 0, 0, 0, 0, 0, 63};
        for (int what = 0; what < counts.length; what++) {
            CHECK.due("laid count(" + what + ")", x.count(what), counts[what]);
        }
        CHECK.line("laid", x, 0, 1, 2, 3, 4, 5, 6);
        CHECK.due("undo() behind lay()", x.undo(), NO);
        CHECK.due("back() behind lay()", x.back(), NO);
    }

    private static void notLaid() {
        String[] texts = {"", "s4;", "p0,1,1,1;x", "p0,1,1,1;d0,0,1;"};
        for (String text : texts) {
            KerbQueue x = new KerbQueue();
            x.pass(2);
            x.keep();
            x.see(0, 1, 5);
            Check.write(x, text);
            CHECK.due("lay() of " + text, x.lay(), NO);
            int[] counts = {6, 4, 2, 6, 0, 0, 9, 1, 1, 1, text.length()};
            for (int what = 0; what < counts.length; what++) {
                CHECK.due("not laid count(" + what + "): " + text, x.count(what), counts[what]);
            }
            CHECK.line("not laid", x, 0, 2, 1, 3, 4, 5);
        }
    }
}
