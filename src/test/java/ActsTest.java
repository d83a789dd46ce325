/** Promises 10 to 15: pass, let, leave, come, pay, undo. */
public final class ActsTest {
    private static final int BAD = KerbQueue.BAD;
    private static final int NO = KerbQueue.NO;
    private static final int NONE = KerbQueue.NONE;
    private static final String MEEK_THREE = "p1,1,9,0;p1,1,9,0;p1,1,9,0;s9;";
    private static final Check CHECK = new Check();

    public static void main(String[] args) {
        eachPushesOnceInAMinute();
        pushesByTheMinute();
        pushesByKind();
        rudeOnesOweNoneForLess();
        sharpOnesMindTheirMoney();
        servedBehindThePushes();
        atFirst();
        howManyMinutes();
        emptyQueue();
        letting();
        leaving();
        coming();
        paying();
        undoing();
        undoingTheLastEight();
        CHECK.end();
    }

    private static void eachPushesOnceInAMinute() {
        KerbQueue x = CHECK.laid("p0,1,1,0;p0,2,1,0;p0,3,1,0;s9;");
        CHECK.due("pass(1)", x.pass(1), 1);
        CHECK.line("minute 1", x, 1, 2, 0);
        CHECK.dues("minute 1", x, 3, -1, -2);
        CHECK.due("pass(1) again", x.pass(1), 2);
        CHECK.line("minute 2", x, 2, 1, 0);
        CHECK.dues("minute 2", x, 3, 0, -3);
        CHECK.due("owes(1, 0)", x.owes(1, 0), 1);
        CHECK.due("owes(2, 0)", x.owes(2, 0), 2);
        CHECK.due("owes(2, 1)", x.owes(2, 1), 1);
        CHECK.due("owes(0, 1)", x.owes(0, 1), 0);
    }

    private static void pushesByTheMinute() {
        KerbQueue x = CHECK.laid("p1,0,1,0;p0,9,3,0;s9;");
        x.pass(2);
        CHECK.line("minute 2", x, 0, 1);
        x.pass(1);
        CHECK.line("minute 3", x, 1, 0);
        x.let(1, 0);
        x.pass(2);
        CHECK.line("minute 5", x, 0, 1);
        x.pass(1);
        CHECK.line("minute 6", x, 1, 0);
        CHECK.dues("minute 6", x, 18, -18);
    }

    private static void pushesByKind() {
        KerbQueue x = CHECK.laid("p0,5,1,0;p0,5,1,0;p1,9,1,60;p0,9,1,60;s9;");
        x.pass(4);
        CHECK.line("no push by as much, none by a MEEK one", x, 0, 1, 2, 3);
        CHECK.dues("no push", x, 0, 0, 0, 0);
    }

    private static void rudeOnesOweNoneForLess() {
        KerbQueue x = CHECK.laid("p2,5,1,0;p2,9,1,0;s9;");
        x.pass(1);
        CHECK.line("minute 1", x, 1, 0);
        CHECK.due("owes(1, 0)", x.owes(1, 0), 4);
        x.pass(1);
        CHECK.line("minute 2", x, 0, 1);
        CHECK.due("owes(0, 1) for less", x.owes(0, 1), 0);
        CHECK.due("owes(1, 0) stays", x.owes(1, 0), 4);
        x.pass(1);
        CHECK.due("owes(1, 0) so much more", x.owes(1, 0), 8);
    }

    private static void sharpOnesMindTheirMoney() {
        KerbQueue x = CHECK.laid("p1,5,1,9;p3,9,1,4;s9;d0,1,9;");
        x.pass(1);
        CHECK.line("it has as much", x, 1, 0);
        x.let(1, 0);
        x.pass(1);
        CHECK.line("pushing takes no money", x, 1, 0);
        CHECK.due("owes(1, 0)", x.owes(1, 0), 8);
        CHECK.due("person(1, 3)", x.person(1, 3), 4);
        x.let(1, 0);
        x.pay(1, 0);
        x.pass(1);
        CHECK.line("it has none", x, 0, 1);
        x.pay(0, 1);
        x.pass(1);
        CHECK.line("it has been paid", x, 1, 0);
    }

    private static void servedBehindThePushes() {
        KerbQueue x = CHECK.laid("p0,1,2,0;p0,9,2,0;p1,3,2,0;s2;");
        x.pass(1);
        CHECK.line("minute 1", x, 0, 1, 2);
        x.pass(1);
        CHECK.line("minute 2", x, 0, 2);
        CHECK.due("who pushed is SERVED", x.person(1, 5), 1);
        CHECK.due("and owes", x.owes(1, 0), 8);
        x.pass(1);
        CHECK.due("in the QUEUE in minute 3", x.count(3), 2);
        x.pass(1);
        CHECK.line("minute 4", x, 2);
        CHECK.due("count(4)", x.count(4), 2);
    }

    private static void atFirst() {
        KerbQueue x = new KerbQueue();
        x.pass(4);
        CHECK.line("minute 4", x, 0, 3, 1, 4, 5);
        CHECK.dues("minute 4", x, 5, 9, -5, -3, 0, -6);
        x.pass(1);
        CHECK.line("minute 5", x, 0, 3, 1, 5, 4);
        CHECK.dues("minute 5", x, 5, 9, -5, -3, 12, -18);
    }

    private static void howManyMinutes() {
        KerbQueue x = new KerbQueue();
        CHECK.due("pass(0)", x.pass(0), BAD);
        CHECK.due("pass(25)", x.pass(25), BAD);
        CHECK.due("pass(-1)", x.pass(-1), BAD);
        CHECK.due("pass(most)", x.pass(Integer.MAX_VALUE), BAD);
        for (int i = 1; i <= 41; i++) {
            CHECK.due("pass(24)", x.pass(24), 24 * i);
        }
        CHECK.due("pass(16) beyond 999", x.pass(16), NO);
        CHECK.due("pass(25) beyond 999", x.pass(25), BAD);
        CHECK.due("count(2) at 984", x.count(2), 984);
        CHECK.due("pass(15) to 999", x.pass(15), 999);
        CHECK.due("pass(1) at 999", x.pass(1), NO);
        CHECK.due("undo() at 999", x.undo(), 7);
        CHECK.due("count(2) when undone", x.count(2), 984);
    }

    private static void emptyQueue() {
        KerbQueue x = CHECK.laid("p1,1,9,0;s1;");
        CHECK.due("pass(3)", x.pass(3), 3);
        CHECK.line("all are SERVED", x);
        CHECK.due("count(4)", x.count(4), 1);
        CHECK.due("come(0)", x.come(0), 0);
        CHECK.due("pass(1)", x.pass(1), 4);
        CHECK.line("SERVED anew", x);
    }

    private static void letting() {
        KerbQueue x = CHECK.laid("p1,1,9,0;p1,9,9,0;p1,1,9,0;p1,20,9,0;s9;d3,0,5;d0,3,2;");
        CHECK.due("let(0, 3)", x.let(0, 3), 0);
        CHECK.line("3 was let past 0", x, 3, 0, 1, 2);
        CHECK.due("nothing more is owed", x.owes(3, 0), 5);
        CHECK.due("nothing less is owed", x.owes(0, 3), 2);
        CHECK.due("owed in all", x.count(6), 7);
        CHECK.due("let(1, 2)", x.let(1, 2), 2);
        CHECK.line("2 was let past 1", x, 3, 0, 2, 1);
        CHECK.due("let(0, 3), ahead of it", x.let(0, 3), NO);
        CHECK.due("let(0, 0)", x.let(0, 0), BAD);
        CHECK.due("let(4, 0)", x.let(4, 0), BAD);
        CHECK.due("let(0, 4)", x.let(0, 4), BAD);
        CHECK.due("let(-1, 0)", x.let(-1, 0), BAD);
        CHECK.due("let(0, -1)", x.let(0, -1), BAD);
        x.leave(0);
        CHECK.due("let() by one AWAY", x.let(0, 1), NO);
        CHECK.due("let() of one AWAY", x.let(3, 0), NO);
        CHECK.line("nothing changed", x, 3, 2, 1);
        CHECK.due("count(8)", x.count(8), 3);
    }

    private static void leaving() {
        KerbQueue x = CHECK.laid(MEEK_THREE);
        CHECK.due("leave(1)", x.leave(1), 2);
        CHECK.line("1 is AWAY", x, 0, 2);
        CHECK.due("leave(1) again", x.leave(1), NO);
        CHECK.due("leave(3)", x.leave(3), BAD);
        CHECK.due("leave(-1)", x.leave(-1), BAD);
        CHECK.due("leave(0)", x.leave(0), 1);
        CHECK.due("leave(2)", x.leave(2), 0);
        CHECK.due("count(5)", x.count(5), 3);
        KerbQueue y = CHECK.laid("p1,1,9,0;p1,1,9,0;s1;");
        y.pass(1);
        CHECK.due("leave() of one SERVED", y.leave(0), NO);
        CHECK.due("it stays SERVED", y.person(0, 5), 1);
    }

    private static void coming() {
        KerbQueue x = CHECK.laid("p1,1,9,0;p1,1,9,0;p1,1,9,0;s2;");
        CHECK.due("come() of one in the QUEUE", x.come(0), NO);
        CHECK.due("come(3)", x.come(3), BAD);
        CHECK.due("come(-1)", x.come(-1), BAD);
        x.pass(2);
        x.leave(1);
        CHECK.due("come() of one SERVED", x.come(0), 1);
        CHECK.due("come() of one AWAY", x.come(1), 2);
        CHECK.line("both are back", x, 2, 0, 1);
        CHECK.due("count(4)", x.count(4), 0);
        CHECK.due("count(5)", x.count(5), 0);
    }

    private static void paying() {
        KerbQueue x = CHECK.laid("p1,1,9,7;p1,1,9,0;p1,1,9,60;s9;d0,1,9;d1,0,3;d2,0,5;");
        CHECK.due("pay(0, 1) as far as it has so much", x.pay(0, 1), 7);
        CHECK.due("owes(0, 1)", x.owes(0, 1), 2);
        CHECK.due("owes(1, 0) stays", x.owes(1, 0), 3);
        CHECK.due("person(0, 3)", x.person(0, 3), 0);
        CHECK.due("person(1, 3)", x.person(1, 3), 7);
        CHECK.due("pay(0, 1) without money", x.pay(0, 1), NO);
        CHECK.due("pay(1, 0)", x.pay(1, 0), 3);
        CHECK.due("pay(1, 0) owing nothing", x.pay(1, 0), NO);
        CHECK.due("pay(0, 2) owing nothing", x.pay(0, 2), NO);
        CHECK.due("pay(1, 1)", x.pay(1, 1), BAD);
        CHECK.due("pay(3, 0)", x.pay(3, 0), BAD);
        CHECK.due("pay(0, 3)", x.pay(0, 3), BAD);
        CHECK.due("pay(-1, 0)", x.pay(-1, 0), BAD);
        x.leave(2);
        CHECK.due("pay() by one AWAY", x.pay(2, 0), 5);
        CHECK.due("person(2, 3)", x.person(2, 3), 55);
        CHECK.due("person(0, 3) when paid", x.person(0, 3), 8);
        CHECK.due("count(8)", x.count(8), 4);
    }

    private static void undoing() {
        KerbQueue x = CHECK.laid("p1,1,1,7;p0,9,1,0;p1,1,9,60;s3;d0,1,9;");
        x.pass(7);
        x.come(0);
        x.come(1);
        x.let(0, 1);
        x.pay(0, 1);
        x.leave(1);
        CHECK.due("undo() of leave", x.undo(), 5);
        CHECK.line("leave is undone", x, 2, 1, 0);
        CHECK.due("place of who had left", x.person(1, 5), 0);
        CHECK.due("undo() of pay", x.undo(), 4);
        CHECK.due("owes(0, 1) as before", x.owes(0, 1), 9);
        CHECK.due("person(0, 3) as before", x.person(0, 3), 7);
        CHECK.due("person(1, 3) as before", x.person(1, 3), 0);
        CHECK.due("undo() of let", x.undo(), 3);
        CHECK.line("let is undone", x, 2, 0, 1);
        CHECK.due("undo() of come", x.undo(), 2);
        CHECK.line("come is undone", x, 2, 0);
        CHECK.due("who had come is SERVED as before", x.person(1, 5), 1);
        CHECK.due("undo() of come", x.undo(), 1);
        CHECK.due("undo() of seven minutes", x.undo(), 0);
        CHECK.line("all minutes are undone", x, 0, 1, 2);
        CHECK.due("count(2)", x.count(2), 0);
        CHECK.due("owes(1, 0)", x.owes(1, 0), 0);
        CHECK.due("undo() of nothing", x.undo(), NO);
    }

    private static void undoingTheLastEight() {
        KerbQueue x = CHECK.laid(MEEK_THREE);
        for (int i = 1; i <= 10; i++) {
            x.pass(1);
            CHECK.due("count(8) behind " + i, x.count(8), Math.min(i, 8));
        }
        x.let(2, 0);
        x.pass(0);
        x.leave(7);
        CHECK.due("what could not be done is none", x.count(8), 8);
        x.see(0, 1, 0);
        for (int left = 7; left >= 0; left--) {
            CHECK.due("undo()", x.undo(), left);
            CHECK.due("count(2)", x.count(2), left + 2);
        }
        CHECK.due("undo() of a ninth", x.undo(), NO);
        CHECK.due("what is SEEN is not undone", x.count(7), 1);
        CHECK.due("pass(1) behind it", x.pass(1), 3);
        CHECK.due("count(8) behind it", x.count(8), 1);
        CHECK.due("place(6)", x.place(6), NONE);
    }
}
