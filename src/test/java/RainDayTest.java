/** Promises 26 to 29: rain, day, keep, back. */
public final class RainDayTest {
    private static final int BAD = KerbQueue.BAD;
    private static final int NO = KerbQueue.NO;
    private static final int FULL = KerbQueue.FULL;
    private static final Check CHECK = new Check();

    public static void main(String[] args) {
        rainOfOneMinute();
        rainOfMoreMinutes();
        rainOnThoseNotInTheQueue();
        rainWrong();
        daysOfPayments();
        daysOfComing();
        daysOfLetting();
        daysOfMinutes();
        daysWrong();
        keeping();
        goingBack();
        goingBackForgetsUndone();
        CHECK.end();
    }

    private static void rain(KerbQueue x, int p, int n, int tenths, int above, int below) {
        CHECK.due("rain(" + p + ", " + n + ", " + tenths + ", 0)", x.rain(p, n, tenths, 0), above);
        CHECK.due("rain(" + p + ", " + n + ", " + tenths + ", 1)", x.rain(p, n, tenths, 1), below);
    }

    // 1 pushes past 0 and is SERVED, unless it rains.
    private static void rainOfOneMinute() {
        KerbQueue x = CHECK.laid("p1,1,1,0;p0,9,1,0;s1;");
        rain(x, 0, 1, 3, 3, 10);
        rain(x, 1, 1, 3, 7, 10);
        rain(x, 0, 1, 5, 1, 2);
        rain(x, 1, 1, 4, 3, 5);
        rain(x, 0, 1, 0, 0, 1);
        rain(x, 1, 1, 0, 1, 1);
        rain(x, 0, 1, 10, 1, 1);
        rain(x, 1, 1, 10, 0, 1);
        rain(x, 0, 0, 5, 0, 1);
        rain(x, 0, 2, 3, 1, 1);
        rain(x, 1, 8, 7, 1, 1);
        CHECK.line("nothing changed", x, 0, 1);
        CHECK.due("count(6) as it was", x.count(6), 0);
    }

    // 1 pushes past 0, if in any minute it does not rain.
    private static void rainOfMoreMinutes() {
        KerbQueue x = CHECK.laid("p1,1,1,0;p0,9,1,0;s2;");
        rain(x, 0, 2, 3, 9, 100);
        rain(x, 1, 2, 3, 91, 100);
        rain(x, 1, 2, 5, 3, 4);
        rain(x, 1, 1, 5, 0, 1);
        KerbQueue y = CHECK.laid("p1,1,1,0;p0,9,1,0;s8;");
        rain(y, 0, 8, 1, 1, 100000000);
        rain(y, 1, 8, 1, 99999999, 100000000);
        rain(y, 0, 8, 9, 43046721, 100000000);
        rain(y, 0, 7, 9, 0, 1);
        rain(y, 0, 8, 5, 1, 256);
        y.pass(5);
        rain(y, 1, 8, 10, 1, 1);
        rain(y, 0, 8, 10, 0, 1);
    }

    private static void rainOnThoseNotInTheQueue() {
        KerbQueue x = CHECK.laid("p1,1,1,0;p1,9,1,0;s1;");
        x.leave(1);
        x.pass(1);
        rain(x, 0, 0, 5, 1, 1);
        rain(x, 0, 8, 5, 1, 1);
        rain(x, 1, 8, 5, 0, 1);
        x.come(0);
        rain(x, 0, 0, 5, 0, 1);
        rain(x, 0, 1, 5, 1, 1);
    }

    private static void rainWrong() {
        KerbQueue x = new KerbQueue();
        CHECK.due("rain(6, 0, 0, 0)", x.rain(6, 0, 0, 0), BAD);
        CHECK.due("rain(-1, 0, 0, 0)", x.rain(-1, 0, 0, 0), BAD);
        CHECK.due("rain(0, 9, 0, 0)", x.rain(0, 9, 0, 0), BAD);
        CHECK.due("rain(0, -1, 0, 0)", x.rain(0, -1, 0, 0), BAD);
        CHECK.due("rain(0, 0, 11, 0)", x.rain(0, 0, 11, 0), BAD);
        CHECK.due("rain(0, 0, -1, 0)", x.rain(0, 0, -1, 0), BAD);
        CHECK.due("rain(0, 0, 0, 2)", x.rain(0, 0, 0, 2), BAD);
        CHECK.due("rain(0, 0, 0, -1)", x.rain(0, 0, 0, -1), BAD);
    }

    // z = 1, k = 0: DRAW = 7920 x 7920 modulo 65521 = 22803: modulo 8 it is 3, ONE is 2850, OTHER 356.
    // z = 0, k = 2: DRAW = 12303 x 12303 modulo 65521 = 10299: 3, 1287, 160.
    private static void daysOfPayments() {
        KerbQueue x = CHECK.laid("p1,1,9,4;p1,1,9,0;p1,1,9,0;s9;d0,2,9;d2,0,7;");
        CHECK.due("day(1, 1, 1), 0 PAYS 2", x.day(1, 1, 1), 12);
        CHECK.due("day(1, 1, 0)", x.day(1, 1, 0), 3);
        CHECK.due("owed in all as it was", x.count(6), 16);
        CHECK.due("person(0, 3) as it was", x.person(0, 3), 4);
        x.leave(0);
        CHECK.due("day(1, 1, 1), one AWAY PAYS", x.day(1, 1, 1), 12);
        CHECK.due("day(4, 1, 1), nothing is done", x.day(4, 1, 1), 16);
        KerbQueue y = CHECK.laid("p1,1,9,0;p1,1,9,3;s9;d1,0,5;");
        CHECK.due("day(0, 2, 1)", y.day(0, 2, 1), 5);
        CHECK.due("day(0, 3, 1), 1 PAYS 0", y.day(0, 3, 1), 2);
        y.pass(7);
        CHECK.due("day(0, 2, 1) later", y.day(0, 2, 1), 5);
        CHECK.due("day(0, 3, 1) later", y.day(0, 3, 1), 2);
    }

    // z = 0, k = 0: DRAW = 1: 1, ONE is 0.  z = 5, k = 0: DRAW = 39596 x 39596 modulo 65521 = 56728: 0, ONE is 7091.
    private static void daysOfComing() {
        KerbQueue x = CHECK.laid("p1,0,9,0;p1,1,9,0;p1,2,9,0;s9;");
        CHECK.due("day(5, 1, 0), 2 is in the QUEUE", x.day(5, 1, 0), 3);
        x.leave(2);
        CHECK.due("day(5, 1, 0), 2 comes", x.day(5, 1, 0), 3);
        CHECK.due("day(0, 1, 0), 0 is in the QUEUE", x.day(0, 1, 0), 2);
        x.leave(0);
        CHECK.due("day(0, 1, 0), 0 comes", x.day(0, 1, 0), 2);
        CHECK.due("day(2, 1, 0), nobody comes", x.day(2, 1, 0), 1);
        x.pass(8);
        CHECK.due("day(0, 1, 0), 0 comes, 1 is SERVED", x.day(0, 1, 0), 1);
        x.pass(1);
        CHECK.line("1 is SERVED", x);
        CHECK.due("day(5, 1, 0), 2 comes alone", x.day(5, 1, 0), 1);
        CHECK.line("nothing changed", x);
        KerbQueue y = CHECK.laid("p0,9,1,0;p1,0,9,0;s9;");
        y.leave(0);
        CHECK.due("day(0, 1, 1), 0 comes to the end and pushes", y.day(0, 1, 1), 9);
    }

    // z = 16, k = 0: DRAW = 126705 x 126705 modulo 65521 = 5042: 2, ONE is 630, OTHER 78.
    private static void daysOfLetting() {
        KerbQueue x = CHECK.laid("p0,9,1,0;p1,8,1,0;p1,7,1,0;p1,0,1,0;p1,9,1,0;s9;");
        CHECK.due("day(16, 1, 1), 0 LETS 3 past, then pushes", x.day(16, 1, 1), 9);
        CHECK.due("day(4, 1, 1), nothing is done", x.day(4, 1, 1), 0);
        x.leave(3);
        CHECK.due("day(16, 1, 1), 3 is AWAY", x.day(16, 1, 1), 0);
        x.come(3);
        x.let(0, 3);
        x.let(3, 1);
        CHECK.line("3 is ahead of 0", x, 1, 3, 0, 2, 4);
        CHECK.due("day(16, 1, 1), 3 is ahead of 0", x.day(16, 1, 1), 9);
        CHECK.line("nothing changed", x, 1, 3, 0, 2, 4);
        CHECK.due("count(6) as it was", x.count(6), 0);
    }

    private static void daysOfMinutes() {
        KerbQueue x = CHECK.laid("p1,1,9,0;s9;");
        x.leave(0);
        x.pass(1);
        CHECK.due("day(0, 8, 0), 0 comes, then is SERVED", x.day(0, 8, 0), 0);
        CHECK.due("day(0, 7, 0)", x.day(0, 7, 0), 1);
        KerbQueue y = new KerbQueue();
        CHECK.due("day(9999, 60, 0)", y.day(9999, 60, 0), new Model().day(9999, 60, 0));
        CHECK.due("day(9999, 60, 1)", y.day(9999, 60, 1), new Model().day(9999, 60, 1));
        CHECK.due("count(2) as it was", y.count(2), 0);
        CHECK.due("count(8) as it was", y.count(8), 0);
    }

    private static void daysWrong() {
        KerbQueue x = new KerbQueue();
        CHECK.due("day(-1, 1, 0)", x.day(-1, 1, 0), BAD);
        CHECK.due("day(10000, 1, 0)", x.day(10000, 1, 0), BAD);
        CHECK.due("day(0, 0, 0)", x.day(0, 0, 0), BAD);
        CHECK.due("day(0, 61, 0)", x.day(0, 61, 0), BAD);
        CHECK.due("day(0, 1, 2)", x.day(0, 1, 2), BAD);
        CHECK.due("day(0, 1, -1)", x.day(0, 1, -1), BAD);
    }

    private static void keeping() {
        KerbQueue x = new KerbQueue();
        x.pass(1);
        CHECK.due("keep()", x.keep(), 1);
        CHECK.due("keep() again", x.keep(), 2);
        CHECK.due("keep() a third time", x.keep(), FULL);
        CHECK.due("count(9)", x.count(9), 2);
        CHECK.due("count(8) stays", x.count(8), 1);
        CHECK.due("undo() behind keep()", x.undo(), 0);
        CHECK.due("KEPT is not undone", x.count(9), 2);
    }

    private static void goingBack() {
        KerbQueue x = CHECK.laid("p1,1,1,7;p0,9,1,0;p1,1,9,60;s3;d0,1,9;");
        x.pass(1);
        x.keep();
        x.pass(2);
        x.leave(0);
        x.keep();
        x.pay(0, 1);
        x.come(0);
        x.come(1);
        x.see(0, 1, 5);
        Check.write(x, "p0,1");
        CHECK.due("back()", x.back(), 1);
        CHECK.line("as kept last", x, 2);
        CHECK.due("0 is AWAY", x.person(0, 5), 2);
        CHECK.due("1 is SERVED", x.person(1, 5), 1);
        CHECK.due("person(0, 3)", x.person(0, 3), 7);
        CHECK.due("owes(0, 1)", x.owes(0, 1), 9);
        CHECK.due("count(2)", x.count(2), 3);
        CHECK.due("what is SEEN stays", x.count(7), 1);
        CHECK.due("THE TEXT stays", x.count(10), 42);
        x.pass(3);
        CHECK.due("back() again", x.back(), 0);
        CHECK.line("as kept first", x, 1, 0, 2);
        CHECK.due("owes(1, 0)", x.owes(1, 0), 8);
        CHECK.due("count(2)", x.count(2), 1);
        CHECK.due("back() to nothing", x.back(), NO);
        CHECK.due("keep() behind it", x.keep(), 1);
    }

    private static void goingBackForgetsUndone() {
        KerbQueue x = new KerbQueue();
        x.pass(1);
        x.keep();
        x.pass(1);
        x.back();
        CHECK.due("count(8) behind back()", x.count(8), 0);
        CHECK.due("undo() behind back()", x.undo(), NO);
        CHECK.due("count(2)", x.count(2), 1);
        x.leave(0);
        CHECK.due("undo() of what came behind it", x.undo(), 0);
        CHECK.line("as kept", x, 0, 1, 2, 3, 4, 5);
    }
}
