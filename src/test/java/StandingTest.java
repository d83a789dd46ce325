/** Promises 6 to 9 and 30: person, owes, place, would, count. */
public final class StandingTest {
    private static final int BAD = KerbQueue.BAD;
    private static final int NO = KerbQueue.NO;
    private static final int NONE = KerbQueue.NONE;
    private static final Check CHECK = new Check();

    public static void main(String[] args) {
        persons();
        whoIsServedOrAway();
        owing();
        places();
        wouldByKind();
        wouldByMoney();
        wouldWhatever();
        counts();
        CHECK.end();
    }

    private static void persons() {
        KerbQueue x = CHECK.laid("p0,5,3,20;p1,9,2,4;d0,1,60;d1,0,7;");
        CHECK.due("DUE is what is owed to it less what it owes", x.person(0, 6), 200000 - 53);
        CHECK.due("DUE of the other", x.person(1, 6), 200000 + 53);
        CHECK.due("person(0, 7)", x.person(0, 7), BAD);
        CHECK.due("person(0, -1)", x.person(0, -1), BAD);
        CHECK.due("person(2, 0)", x.person(2, 0), BAD);
        CHECK.due("person(-1, 0)", x.person(-1, 0), BAD);
        CHECK.due("person(most, 0)", x.person(Integer.MAX_VALUE, 0), BAD);
        CHECK.due("person(least, 0)", x.person(Integer.MIN_VALUE, 0), BAD);
    }

    private static void whoIsServedOrAway() {
        KerbQueue x = CHECK.laid("p1,1,9,0;p1,1,9,0;p1,1,9,0;s1;");
        x.pass(1);
        x.leave(1);
        CHECK.due("place of one SERVED", x.person(0, 4), NONE);
        CHECK.due("one SERVED", x.person(0, 5), 1);
        CHECK.due("place of one AWAY", x.person(1, 4), NONE);
        CHECK.due("one AWAY", x.person(1, 5), 2);
        CHECK.due("place of the last one", x.person(2, 4), 0);
        CHECK.due("one in the QUEUE", x.person(2, 5), 0);
        x.come(1);
        CHECK.due("place of one come back", x.person(1, 4), 1);
        CHECK.due("one come back", x.person(1, 5), 0);
    }

    private static void owing() {
        KerbQueue x = CHECK.laid("p0,5,3,20;p1,9,2,4;p0,1,1,1;d0,1,60;d1,0,7;d2,0,1;");
        CHECK.due("owes(0, 1)", x.owes(0, 1), 60);
        CHECK.due("owes(1, 0)", x.owes(1, 0), 7);
        CHECK.due("owes(2, 0)", x.owes(2, 0), 1);
        CHECK.due("owes(0, 2)", x.owes(0, 2), 0);
        CHECK.due("owes(1, 1)", x.owes(1, 1), BAD);
        CHECK.due("owes(3, 0)", x.owes(3, 0), BAD);
        CHECK.due("owes(0, 3)", x.owes(0, 3), BAD);
        CHECK.due("owes(-1, 0)", x.owes(-1, 0), BAD);
        CHECK.due("owes(0, -1)", x.owes(0, -1), BAD);
    }

    private static void places() {
        KerbQueue x = CHECK.laid("p1,1,9,0;p1,1,9,0;p1,1,9,0;");
        x.let(0, 2);
        CHECK.line("2 was let past", x, 2, 0, 1);
        CHECK.due("place(-1)", x.place(-1), BAD);
        CHECK.due("place(7)", x.place(7), BAD);
        CHECK.due("place(6)", x.place(6), NONE);
        x.leave(0);
        CHECK.line("0 is away", x, 2, 1);
    }

    private static void wouldByKind() {
        KerbQueue x = CHECK.laid("p0,5,1,0;p0,5,1,0;p0,6,1,0;p1,9,1,60;p2,0,1,0;p0,0,1,0;p2,20,1,0;");
        CHECK.due("would() of the first", x.would(0), NO);
        CHECK.due("would() of a PLAIN one by as much", x.would(1), 0);
        CHECK.due("would() of a PLAIN one by more", x.would(2), 1);
        CHECK.due("would() of a MEEK one", x.would(3), 0);
        CHECK.due("would() of a RUDE one by less", x.would(4), 1);
        CHECK.due("would() of a PLAIN one by none", x.would(5), 0);
        CHECK.due("would() of a RUDE one by more", x.would(6), 1);
        CHECK.due("would(7)", x.would(7), BAD);
        CHECK.due("would(-1)", x.would(-1), BAD);
        x.leave(3);
        CHECK.due("would() of one AWAY", x.would(3), NO);
        CHECK.due("would(4) behind another one", x.would(4), 1);
        x.leave(0);
        CHECK.due("would() of the first by now", x.would(1), NO);
    }

    private static void wouldByMoney() {
        KerbQueue x = CHECK.laid("p1,5,1,0;p3,9,1,3;p1,5,1,0;p3,9,1,4;p1,5,1,0;p3,5,1,60;p3,4,1,60;");
        CHECK.due("would() of a SHARP one that has too little", x.would(1), 0);
        CHECK.due("would() of a SHARP one that has just that", x.would(3), 1);
        CHECK.due("would() of a SHARP one by as much", x.would(5), 0);
        CHECK.due("would() of a SHARP one by less", x.would(6), 0);
        KerbQueue w = CHECK.laid("p1,5,1,0;p3,6,1,1;p3,7,1,0;");
        CHECK.due("would() of a SHARP one by one more", w.would(1), 1);
        CHECK.due("would() of a SHARP one that has none", w.would(2), 0);
        KerbQueue y = CHECK.laid("p1,5,1,0;p3,9,1,4;d1,0,60;");
        CHECK.due("what it owes already is none of that push", y.would(1), 1);
        y.pay(1, 0);
        CHECK.due("would() of a SHARP one that has paid all", y.would(1), 0);
    }

    private static void wouldWhatever() {
        KerbQueue x = CHECK.laid("p1,5,1,0;p0,9,9,0;s9;");
        CHECK.due("would() whatever the minute", x.would(1), 1);
        x.pass(3);
        CHECK.due("would() whatever the minute, later", x.would(1), 1);
    }

    private static void counts() {
        KerbQueue x = CHECK.laid("p1,1,9,0;p1,1,9,0;p1,1,9,0;p1,1,9,9;s2;d0,1,60;d1,0,7;d3,2,5;");
        x.pass(5);
        x.leave(3);
        x.see(0, 1, 1);
        x.see(0, 2, 1);
        x.see(0, 3, 1);
        x.keep();
        int[] counts = {4, 2, 5, 1, 2, 1, 72, 3, 2, 1, 61};
        for (int what = 0; what < counts.length; what++) {
            CHECK.due("count(" + what + ")", x.count(what), counts[what]);
        }
        CHECK.due("count(11)", x.count(11), BAD);
        CHECK.due("count(-1)", x.count(-1), BAD);
        x.pay(3, 2);
        CHECK.due("count(6) when 5 are paid", x.count(6), 67);
    }
}
