/** Promises 16 to 21: behind, served, stand, haste, clear, miss. */
public final class ComingTest {
    private static final int BAD = KerbQueue.BAD;
    private static final int NO = KerbQueue.NO;
    private static final int NONE = KerbQueue.NONE;
    private static final String MEEK_SEVEN =
        "p1,1,9,0;p1,1,9,0;p1,1,9,0;p1,1,9,0;p1,1,9,0;p1,1,9,0;p1,1,9,0;s9;";
    private static final Check CHECK = new Check();

    public static void main(String[] args) {
        behindMinutes();
        behindTheLastMinute();
        servedFirst();
        standingWhereOwedMost();
        standingFirstOfSeveral();
        standingNotAhead();
        standingWrong();
        hastening();
        hasteByWhoLets();
        hasteByPushing();
        hasteInVain();
        clearing();
        missing();
        nothingChanges();
        CHECK.end();
    }

    private static void behindMinutes() {
        KerbQueue x = new KerbQueue();
        x.pass(1);
        CHECK.due("behind(0, 2, 0)", x.behind(0, 2, 0), 2);
        CHECK.due("behind(0, 2, 1)", x.behind(0, 2, 1), 199997);
        CHECK.due("behind(1, 2, 0)", x.behind(1, 2, 0), 1);
        CHECK.due("behind(3, 2, 0), SERVED", x.behind(3, 2, 0), NONE);
        CHECK.due("behind(3, 2, 1)", x.behind(3, 2, 1), 199995);
        CHECK.due("behind(4, 5, 0)", x.behind(4, 5, 0), 3);
        CHECK.due("behind(4, 5, 1)", x.behind(4, 5, 1), 199982);
        CHECK.due("behind(40, 0, 0)", x.behind(40, 0, 0), NONE);
        CHECK.due("behind(41, 0, 0)", x.behind(41, 0, 0), BAD);
        CHECK.due("behind(-1, 0, 0)", x.behind(-1, 0, 0), BAD);
        CHECK.due("behind(0, 6, 0)", x.behind(0, 6, 0), BAD);
        CHECK.due("behind(0, -1, 0)", x.behind(0, -1, 0), BAD);
        CHECK.due("behind(0, 0, 2)", x.behind(0, 0, 2), BAD);
        CHECK.due("behind(0, 0, -1)", x.behind(0, 0, -1), BAD);
        x.leave(3);
        CHECK.due("behind() of one AWAY", x.behind(0, 3, 0), NONE);
        CHECK.due("DUE of one AWAY", x.behind(4, 3, 1), 200000);
    }

    // 999 minutes can go by, but what would be behind more of them is still told.
    private static void behindTheLastMinute() {
        KerbQueue x = CHECK.laid(MEEK_SEVEN);
        for (int i = 0; i < 41; i++) {
            x.pass(24);
        }
        x.pass(15);
        x.come(0);
        CHECK.due("served() at 999", x.served(0), 9);
        CHECK.due("behind(8) at 999", x.behind(8, 0, 0), 0);
        CHECK.due("behind(9) at 999", x.behind(9, 0, 0), NONE);
    }

    private static void servedFirst() {
        KerbQueue x = CHECK.laid(MEEK_SEVEN);
        CHECK.due("served(0)", x.served(0), 9);
        CHECK.due("served(5)", x.served(5), 54);
        CHECK.due("served(6), by minute 63", x.served(6), NONE);
        x.pass(2);
        CHECK.due("served(6), in 61 minutes", x.served(6), NONE);
        x.pass(1);
        CHECK.due("served(6), in 60 minutes", x.served(6), 60);
        CHECK.due("served(7)", x.served(7), BAD);
        CHECK.due("served(-1)", x.served(-1), BAD);
        x.pass(6);
        CHECK.due("served() of one SERVED", x.served(0), NO);
        x.leave(1);
        CHECK.due("served() of one AWAY", x.served(1), NO);
        x.come(0);
        CHECK.due("served() of one SERVED that came back", x.served(0), 54);
    }

    private static void standingWhereOwedMost() {
        KerbQueue x = CHECK.laid("p0,1,1,0;p0,5,1,0;p0,9,1,0;s3;");
        CHECK.due("stand(0, 9, 0)", x.stand(0, 9, 0), 0);
        CHECK.due("stand(0, 9, 1)", x.stand(0, 9, 1), 200012);
        CHECK.due("stand(0, 8, 0)", x.stand(0, 8, 0), NONE);
        CHECK.due("stand(0, 8, 1)", x.stand(0, 8, 1), NONE);
        CHECK.due("stand(2, 3, 0)", x.stand(2, 3, 0), 0);
        CHECK.due("stand(2, 3, 1)", x.stand(2, 3, 1), 200000);
        CHECK.due("stand(2, 2, 0)", x.stand(2, 2, 0), NONE);
    }

    private static void standingFirstOfSeveral() {
        KerbQueue x = CHECK.laid("p1,1,9,0;p1,1,9,0;p1,1,9,0;s1;d0,2,4;");
        CHECK.due("stand(2, 3, 0)", x.stand(2, 3, 0), 0);
        CHECK.due("stand(2, 3, 1)", x.stand(2, 3, 1), 200004);
        CHECK.due("stand(0, 1, 0)", x.stand(0, 1, 0), 0);
        CHECK.due("stand(0, 1, 1)", x.stand(0, 1, 1), 199996);
    }

    // 2 pushes but each 2 minutes: whoever is first is SERVED unpushed, whoever is second is owed 8.
    private static void standingNotAhead() {
        KerbQueue x = CHECK.laid("p1,1,1,0;p1,0,1,0;p0,9,2,0;s2;");
        CHECK.due("stand(0, 5, 0)", x.stand(0, 5, 0), 0);
        CHECK.due("stand(0, 5, 1)", x.stand(0, 5, 1), 200000);
        CHECK.due("stand(0, 6, 0)", x.stand(0, 6, 0), 1);
        CHECK.due("stand(0, 6, 1)", x.stand(0, 6, 1), 200008);
    }

    private static void standingWrong() {
        KerbQueue x = new KerbQueue();
        CHECK.due("stand(6, 1, 0)", x.stand(6, 1, 0), BAD);
        CHECK.due("stand(-1, 1, 0)", x.stand(-1, 1, 0), BAD);
        CHECK.due("stand(0, 0, 0)", x.stand(0, 0, 0), BAD);
        CHECK.due("stand(0, 41, 0)", x.stand(0, 41, 0), BAD);
        CHECK.due("stand(0, 40, 2)", x.stand(0, 40, 2), BAD);
        CHECK.due("stand(0, 40, -1)", x.stand(0, 40, -1), BAD);
        x.leave(0);
        CHECK.due("stand() of one AWAY", x.stand(0, 40, 0), NO);
        CHECK.due("stand(0, 41, 0) of one AWAY", x.stand(0, 41, 0), BAD);
    }

    private static void hastening() {
        KerbQueue x = CHECK.laid("p1,1,9,0;p1,1,9,0;p1,1,9,0;s2;");
        CHECK.due("haste(0, 0)", x.haste(0, 0), 99);
        CHECK.due("haste(0, 1)", x.haste(0, 1), 2);
        CHECK.due("haste(1, 0)", x.haste(1, 0), 1);
        CHECK.due("haste(1, 1)", x.haste(1, 1), 2);
        CHECK.due("haste(2, 0)", x.haste(2, 0), 2);
        CHECK.due("haste(2, 1)", x.haste(2, 1), 2);
        CHECK.due("haste(3, 0)", x.haste(3, 0), BAD);
        CHECK.due("haste(-1, 0)", x.haste(-1, 0), BAD);
        CHECK.due("haste(0, 2)", x.haste(0, 2), BAD);
        CHECK.due("haste(0, -1)", x.haste(0, -1), BAD);
        x.leave(0);
        CHECK.due("haste() of one AWAY", x.haste(0, 0), NO);
        x.let(1, 2);
        CHECK.due("haste() when 2 is ahead of 1", x.haste(1, 0), 21);
    }

    // 3 is SERVED in minute 2 by whomever of the others it is let past.
    private static void hasteByWhoLets() {
        KerbQueue x = CHECK.laid("p1,1,9,0;p1,1,9,0;p1,1,9,0;p2,0,1,0;s2;");
        x.let(0, 2);
        CHECK.line("2 is ahead", x, 2, 0, 1, 3);
        CHECK.due("served(3)", x.served(3), 4);
        CHECK.due("haste(3, 0)", x.haste(3, 0), 3);
        CHECK.due("haste(3, 1)", x.haste(3, 1), 2);
    }

    // 0 is pushed past by 1 unless a MEEK one stands between them.
    private static void hasteByPushing() {
        KerbQueue x = CHECK.laid("p1,0,1,0;p0,9,1,0;p1,0,1,0;s1;");
        CHECK.due("served(0)", x.served(0), 2);
        CHECK.due("haste(0, 0)", x.haste(0, 0), 12);
        CHECK.due("haste(0, 1)", x.haste(0, 1), 1);
    }

    private static void hasteInVain() {
        KerbQueue x = CHECK.laid("p1,0,9,0;p2,1,1,0;p2,1,1,0;p2,1,1,0;p2,1,1,0;p2,1,1,0;p2,1,1,0;s9;");
        CHECK.due("haste(0, 0)", x.haste(0, 0), NONE);
        CHECK.due("haste(0, 1)", x.haste(0, 1), NONE);
        x.pass(3);
        CHECK.due("haste(0, 0) later", x.haste(0, 0), 99);
        CHECK.due("haste(0, 1) later", x.haste(0, 1), 60);
    }

    private static void clear(String debts, int want) {
        String six = "p1,1,9,60;p1,1,9,60;p1,1,9,60;p1,1,9,60;p1,1,9,60;p1,1,9,60;";
        CHECK.due("clear() of " + debts, CHECK.laid(six + debts).clear(), want);
    }

    private static void clearing() {
        CHECK.due("clear() at first", new KerbQueue().clear(), 2);
        clear("", 0);
        clear("d0,1,5;", 1);
        clear("d0,1,5;d1,0,5;", 0);
        clear("d0,1,5;d1,2,5;", 1);
        clear("d0,1,5;d1,2,5;d2,0,5;", 0);
        clear("d0,1,5;d2,1,5;", 2);
        clear("d0,1,5;d2,3,5;", 2);
        clear("d0,3,5;d1,3,4;d2,4,1;d2,5,2;", 4);
        clear("d0,2,3;d1,2,4;d3,5,5;d4,5,6;", 4);
        clear("d0,5,3;d5,2,7;d1,5,4;d3,2,5;d2,5,5;d4,5,6;", 4);
        clear("d0,1,1;d0,2,2;d0,3,3;d0,4,4;d0,5,5;", 5);
        clear("d0,1,1;d2,3,2;d4,5,3;", 3);
        KerbQueue x = CHECK.laid("p1,1,9,60;p1,1,9,60;p1,1,9,60;d0,1,5;d2,1,5;s1;");
        x.leave(0);
        x.pass(1);
        CHECK.due("clear() with some not in the QUEUE", x.clear(), 2);
        x.pay(0, 1);
        CHECK.due("clear() when one has paid", x.clear(), 1);
    }

    private static void missing() {
        KerbQueue x = new KerbQueue();
        CHECK.due("miss(0)", x.miss(0), 5);
        CHECK.due("miss(1)", x.miss(1), 200006);
        CHECK.due("miss(2)", x.miss(2), BAD);
        CHECK.due("miss(-1)", x.miss(-1), BAD);
        x.leave(5);
        CHECK.due("miss(0), 5 AWAY", x.miss(0), 2);
        CHECK.due("miss(1), 5 AWAY", x.miss(1), 200009);
        KerbQueue y = CHECK.laid("p1,1,9,0;p0,9,1,0;p1,1,9,0;d0,1,3;d2,1,3;s1;");
        CHECK.due("miss(0), the lowest of several", y.miss(0), 0);
        CHECK.due("miss(1), the lowest of several", y.miss(1), 200003);
        y.leave(0);
        y.leave(1);
        CHECK.due("miss(0) of one alone", y.miss(0), 2);
        CHECK.due("miss(1) of one alone", y.miss(1), 200000);
        y.pass(1);
        CHECK.due("miss(0) of nobody", y.miss(0), NONE);
        CHECK.due("miss(1) of nobody", y.miss(1), NONE);
        CHECK.due("miss(2) of nobody", y.miss(2), BAD);
    }

    private static void nothingChanges() {
        KerbQueue x = new KerbQueue();
        x.pass(1);
        x.behind(40, 0, 0);
        x.served(5);
        x.stand(5, 40, 0);
        x.haste(5, 0);
        x.clear();
        x.miss(0);
        CHECK.line("as it was", x, 0, 1, 2, 3, 4, 5);
        CHECK.dues("as it was", x, 3, 6, -3, 0, 0, -6);
        CHECK.due("count(2) as it was", x.count(2), 1);
        CHECK.due("count(8) as it was", x.count(8), 1);
    }
}
