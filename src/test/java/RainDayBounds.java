/** Boundary cases of rain, days and what is KEPT, promises 26 to 29. */
final class RainDayBounds extends Bounds {

    /** 1 pushes past 0 and is SERVED first, unless it rains in each of so many MINUTES. */
    private static String pushedUnlessRain(int minutes) {
        return "p1,1,9,0;p0,9,1,0;s" + minutes + ";";
    }

    private void rain(KerbQueue x, int p, int n, int tenths, int above, int below) {
        due("rain(" + p + ", " + n + ", " + tenths + ", 0)", x.rain(p, n, tenths, 0), above);
        due("rain(" + p + ", " + n + ", " + tenths + ", 1)", x.rain(p, n, tenths, 1), below);
    }

    // ---- rain

    @Of(promise = 26, sentence = "in each of n (0 to 8) MINUTES")
    void rainOf0To8Minutes() {
        KerbQueue x = laid(pushedUnlessRain(8));
        rain(x, 0, 0, 5, 0, 1);
        rain(x, 0, 7, 5, 0, 1);
        rain(x, 0, 8, 5, 1, 256);
        refused(x, "rain(0, 9, 5, 0)", () -> x.rain(0, 9, 5, 0), BAD);
        refused(x, "rain(0, -1, 5, 0)", () -> x.rain(0, -1, 5, 0), BAD);
    }

    @Of(promise = 26, sentence = "nobody pushes by x (0 to 10) of ten, for itself")
    void rainBy0To10OfTen() {
        KerbQueue x = laid(pushedUnlessRain(2));
        rain(x, 0, 2, 0, 0, 1);
        rain(x, 0, 2, 1, 1, 100);
        rain(x, 0, 2, 9, 81, 100);
        rain(x, 0, 2, 10, 1, 1);
        rain(x, 1, 2, 10, 0, 1);
        refused(x, "rain(0, 2, 11, 0)", () -> x.rain(0, 2, 11, 0), BAD);
        refused(x, "rain(0, 2, -1, 0)", () -> x.rain(0, 2, -1, 0), BAD);
    }

    @Of(promise = 26, sentence = "the chance that one is SERVED behind them (also if it was ahead of them; one that came back into the QUEUE is not, till it is anew)")
    void rainOnThoseServedAhead() {
        KerbQueue x = laid(MEEK_THREE + "s1;");
        x.leave(2);
        x.pass(1);
        rain(x, 0, 0, 10, 1, 1);
        rain(x, 0, 8, 10, 1, 1);
        rain(x, 2, 0, 0, 0, 1);
        rain(x, 2, 8, 0, 0, 1);
        x.come(0);
        rain(x, 0, 0, 10, 0, 1);
        rain(x, 0, 1, 10, 0, 1);
        rain(x, 0, 2, 10, 1, 1);
    }

    @Of(promise = 26, sentence = "in lowest terms.")
    void rainInLowestTerms() {
        rain(laid(pushedUnlessRain(1)), 0, 1, 0, 0, 1);
        rain(laid(pushedUnlessRain(1)), 0, 1, 10, 1, 1);
        rain(laid(pushedUnlessRain(1)), 0, 1, 5, 1, 2);
        rain(laid(pushedUnlessRain(1)), 1, 1, 8, 1, 5);
        rain(laid(pushedUnlessRain(1)), 1, 1, 3, 7, 10);
        rain(laid(pushedUnlessRain(8)), 0, 8, 1, 1, 100000000);
        rain(laid(pushedUnlessRain(8)), 1, 8, 1, 99999999, 100000000);
        rain(laid(pushedUnlessRain(8)), 0, 8, 2, 1, 390625);
    }

    @Of(promise = 26, sentence = "RAIN: above (part = 0), below (1). BAD.")
    void rainAskedFor() {
        KerbQueue x = laid(MEEK_THREE);
        refused(x, "rain(0, 0, 0, 2)", () -> x.rain(0, 0, 0, 2), BAD);
        refused(x, "rain(0, 0, 0, -1)", () -> x.rain(0, 0, 0, -1), BAD);
        refused(x, "rain(3, 0, 0, 0)", () -> x.rain(3, 0, 0, 0), BAD);
        refused(x, "rain(-1, 0, 0, 0)", () -> x.rain(-1, 0, 0, 0), BAD);
        refused(x, "rain(0, 8, 5, 1)", () -> x.rain(0, 8, 5, 1), 1);
    }

    // ---- day

    @Of(promise = 27, sentence = "A DAY by z (0 to 9999) of n (1 to 60) MINUTES from now on (nothing changes by it)")
    void daysOf1To60Minutes() {
        KerbQueue x = new KerbQueue();
        refused(x, "day(0, 0, 0)", () -> x.day(0, 0, 0), BAD);
        refused(x, "day(0, 61, 0)", () -> x.day(0, 61, 0), BAD);
        refused(x, "day(-1, 1, 0)", () -> x.day(-1, 1, 0), BAD);
        refused(x, "day(10000, 1, 0)", () -> x.day(10000, 1, 0), BAD);
        KerbQueue y = new KerbQueue();
        refused(y, "day(0, 1, 0)", () -> y.day(0, 1, 0), 6);
        refused(y, "day(9999, 1, 0)", () -> y.day(9999, 1, 0), 6);
        refused(y, "day(9999, 60, 0)", () -> y.day(9999, 60, 0), new Model().day(9999, 60, 0));
        refused(y, "day(9999, 60, 1)", () -> y.day(9999, 60, 1), new Model().day(9999, 60, 1));
        KerbQueue later = laid(MEEK + "s9;");
        later.pass(8);
        due("day(2, 1, 0), from MINUTE 9 on", later.day(2, 1, 0), 0);
    }

    // By z 0, the DRAW is 1 ahead of the MINUTE k 0, and 10299, of which modulo 8 is 3, ahead of k 2:
    // ONE is 1287, OTHER 160.
    @Of(promise = 27, sentence = "ahead of the k-th (0 first)")
    void drawsAreAheadOfEachMinute() {
        KerbQueue x = laid("p0,9,1,0;p1,0,9,0;s9;");
        x.leave(0);
        due("day(0, 1, 1), 0 comes, then pushes", x.day(0, 1, 1), 9);
        KerbQueue y = laid("p1,1,9,0;p1,1,9,3;s9;d1,0,5;");
        due("day(0, 2, 1), ahead of k 2", y.day(0, 2, 1), 5);
        due("day(0, 3, 1), 1 PAYS 0 ahead of k 2", y.day(0, 3, 1), 2);
    }

    // By z 5 the first DRAW is 56728: modulo 8 it is 0, ONE is 7091: 0 of one, 1 of two, 2 of three, 0 of seven.
    // By z 27 it is 619: modulo 8 it is 3, ONE is 77, OTHER 9 (of 9.67): of three 2 and 0, of two 1 and 1.
    @Of(promise = 27, sentence = "with ONE (DRAW by 8, cut) modulo as many PERSONS as there are")
    void oneOfAsManyAsThereAre() {
        for (int persons = 1; persons <= 7; persons++) {
            KerbQueue x = laid(MEEK.repeat(persons) + "s9;");
            int one = 7091 % persons;
            x.leave(one);
            due("day(5, 1, 0), of " + persons + ", " + one + " AWAY", x.day(5, 1, 0), persons);
            x.come(one);
            x.leave((one + 1) % persons);
            due("day(5, 1, 0), of " + persons + ", the next AWAY", x.day(5, 1, 0), persons == 1 ? 1 : persons - 1);
        }
    }

    // By z 0 the first DRAW is 1, ONE is 0; by z 5 it is 0 modulo 8; by z 2, 3, 4 and 15 it is 5, 6, 7 and 4.
    @Of(promise = 27, sentence = "if DRAW modulo 8 is 0 or 1, it comes back to the end")
    void comingByDraw() {
        KerbQueue x = laid(MEEK.repeat(2) + "s9;");
        x.leave(0);
        due("day(0, 1, 0), 1 modulo 8", x.day(0, 1, 0), 2);
        x.come(0);
        due("day(0, 1, 0), 0 is in the QUEUE", x.day(0, 1, 0), 2);
        x.leave(1);
        due("day(5, 1, 0), 0 modulo 8", x.day(5, 1, 0), 2);
        x.leave(0);
        due("day(0, 1, 0), to nobody", x.day(0, 1, 0), 1);
        int[] others = {2, 3, 4, 15, 16, 1};
        for (int z : others) {
            due("day(" + z + ", 1, 0), 2 to 7 modulo 8", x.day(z, 1, 0), 0);
        }
        x.come(0);
        x.pass(9);
        due("day(0, 1, 0), one SERVED comes back", x.day(0, 1, 0), 1);
    }

    // By z 31 the first DRAW is 41594: modulo 8 it is 2, ONE is 5199, OTHER 649: of three 0 and 1, of two 1 and 1.
    @Of(promise = 27, sentence = "if 2, it LETS OTHER (DRAW by 64, cut) modulo as many past")
    void lettingByDraw() {
        String text = "p0,9,1,0;p1,0,9,0;p1,0,9,0;s9;";
        due("day(31, 1, 1), 0 LETS 1, then pushes past it", laid(text).day(31, 1, 1), 9);
        due("day(0, 1, 1), it LETS nobody", laid(text).day(0, 1, 1), 0);
        KerbQueue ahead = laid(text);
        ahead.let(0, 2);
        ahead.let(2, 1);
        line("1 is ahead of 0 already", ahead, 1, 2, 0);
        due("day(31, 1, 1), 1 is ahead of 0", ahead.day(31, 1, 1), 9);
        KerbQueue away = laid(text);
        away.leave(1);
        due("day(31, 1, 1), 1 is AWAY", away.day(31, 1, 1), 0);
        due("day(31, 1, 0), 1 is AWAY", away.day(31, 1, 0), 2);
        away.come(1);
        away.leave(0);
        due("day(31, 1, 0), 0 is AWAY", away.day(31, 1, 0), 2);
        due("day(31, 1, 1), ONE and OTHER alike", laid("p1,0,9,0;p0,9,9,0;s9;").day(31, 1, 1), 0);
    }

    // By z 38 the first DRAW is 43459: modulo 8 it is 3, ONE is 5432, OTHER 679: of two 0 and 1.
    @Of(promise = 27, sentence = "if 3, it PAYS that one; each if it can be")
    void payingByDraw() {
        due("day(38, 1, 1), 0 PAYS 1 all", laid("p1,1,9,9;p1,1,9,9;s9;d0,1,5;").day(38, 1, 1), 0);
        due("day(38, 1, 1), 0 PAYS 1 what it has", laid("p1,1,9,2;p1,1,9,9;s9;d0,1,5;").day(38, 1, 1), 3);
        due("day(38, 1, 1), 0 has nothing", laid("p1,1,9,0;p1,1,9,9;s9;d0,1,5;").day(38, 1, 1), 5);
        due("day(38, 1, 1), 0 owes nothing", laid("p1,1,9,9;p1,1,9,9;s9;d1,0,5;").day(38, 1, 1), 5);
        due("day(27, 1, 1), ONE and OTHER alike", laid("p1,1,9,9;p1,1,9,9;s9;d1,0,5;").day(27, 1, 1), 5);
        due("day(27, 1, 1), 2 PAYS 0", laid("p1,1,9,9;p1,1,9,9;p1,1,9,9;s9;d2,0,5;d2,1,7;").day(27, 1, 1), 7);
        KerbQueue away = laid("p1,1,9,9;p1,1,9,9;s9;d0,1,5;");
        away.leave(0);
        away.leave(1);
        due("day(38, 1, 1), by and to those AWAY", away.day(38, 1, 1), 0);
    }

    // By z 9990 the DRAW ahead of k 59 is 33128, 0 modulo 8; from k 54 to 58 nobody comes.
    // x is 79473720 then, and x times x 6316072170638400: far beyond an int.
    @Of(promise = 27, sentence = "DRAW being (x times x) modulo 65521, x 7919 z, 6151 k and 1 together")
    void drawsOfTheGreatestNumbers() {
        due("x", 7919 * 9990 + 6151 * 59 + 1, 79473720);
        due("DRAW", 79473720L * 79473720L % 65521, 33128);
        KerbQueue x = laid(MEEK + "s9;");
        due("day(9990, 59, 0)", x.day(9990, 59, 0), 0);
        due("day(9990, 60, 0), 0 comes ahead of k 59", x.day(9990, 60, 0), 1);
        KerbQueue y = laid(MEEK.repeat(7) + "s9;");
        y.leave(6);
        due("day(9993, 1, 0), by 3297 6 comes", y.day(9993, 1, 0), 7);
    }

    @Of(promise = 27, sentence = "how many are in the QUEUE then; what is owed in all.")
    void daysTillNobodyIsThere() {
        KerbQueue x = laid(MEEK + "s1;");
        due("day(2, 1, 0), SERVED", x.day(2, 1, 0), 0);
        due("day(2, 1, 1), nothing owed", x.day(2, 1, 1), 0);
        x.pass(1);
        due("day(0, 1, 0), come and SERVED", x.day(0, 1, 0), 0);
        KerbQueue y = laid(MEEK_SEVEN);
        due("day(2, 8, 0), all", y.day(2, 8, 0), 7);
    }

    @Of(promise = 27, sentence = "A DAY: in the QUEUE (what = 0), owed (1). BAD.")
    void daysAskedFor() {
        KerbQueue x = laid(MEEK_THREE);
        refused(x, "day(0, 1, 2)", () -> x.day(0, 1, 2), BAD);
        refused(x, "day(0, 1, -1)", () -> x.day(0, 1, -1), BAD);
        refused(x, "day(0, 1, 1)", () -> x.day(0, 1, 1), 0);
    }

    // ---- keep, back

    @Of(promise = 28, sentence = "(these stay by back(), behind which nothing can be UNDONE): 2 at most.")
    void keepingTwoAtMost() {
        KerbQueue x = laid(MEEK_THREE);
        due("keep()", x.keep(), 1);
        x.pass(1);
        due("keep() again", x.keep(), 2);
        x.pass(1);
        refused(x, "keep() a third time", x::keep, FULL);
        due("back()", x.back(), 1);
        due("MINUTES gone by, as KEPT second", x.count(2), 1);
        due("keep() with room", x.keep(), 2);
        refused(x, "keep() without room", x::keep, FULL);
    }

    @Of(promise = 28, sentence = "KEPT: how many. FULL.")
    void keepingWithoutRoom() {
        KerbQueue x = laid(MEEK_THREE);
        x.keep();
        x.leave(0);
        x.keep();
        for (int i = 0; i < 9; i++) {
            refused(x, "keep() number " + (i + 3), x::keep, FULL);
        }
        due("back() to the second", x.back(), 1);
        line("as KEPT second", x, 1, 2);
        due("back() to the first", x.back(), 0);
        line("as KEPT first", x, 0, 1, 2);
    }

    @Of(promise = 29, sentence = "KEPT is all as it stands, but what is SEEN and THE TEXT (these stay by back(), behind which nothing can be UNDONE)")
    void goingBackToAllThatStood() {
        KerbQueue x = laid("p1,1,9,9;p0,9,1,9;p1,1,9,9;p1,1,9,9;s3;d0,1,5;");
        x.pass(3);
        x.leave(3);
        x.forget();
        x.wipe();
        x.keep();
        KerbQueue same = laid("p1,1,9,9;p0,9,1,9;p1,1,9,9;p1,1,9,9;s3;d0,1,5;");
        same.pass(3);
        same.leave(3);
        same.keep();
        same.back();
        for (int i = 0; i < 8; i++) {
            x.see(0, 1, 0);
            x.pass(1);
        }
        x.come(1);
        x.come(3);
        x.pay(0, 1);
        Check.write(x, " ".repeat(200));
        due("back()", x.back(), 0);
        due("SEEN stays", x.count(7), 6);
        due("THE TEXT stays", x.count(10), 200);
        refused(x, "undo() behind back()", x::undo, NO);
        x.forget();
        x.wipe();
        same.wipe();
        due("all else as KEPT", picture(x).equals(picture(same)) ? 1 : 0, 1);
    }

    @Of(promise = 29, sentence = "As KEPT last (it is KEPT no more then): how many are left; nothing is UNDONE then. NO.")
    void goingBackToNothing() {
        KerbQueue x = laid(MEEK_THREE);
        refused(x, "back() at first", x::back, NO);
        x.pass(1);
        refused(x, "back() to nothing KEPT", x::back, NO);
        due("what can be UNDONE stays", x.count(8), 1);
        x.keep();
        due("back() to the only one", x.back(), 0);
        due("nothing can be UNDONE", x.count(8), 0);
        refused(x, "back() again", x::back, NO);
        x.keep();
        x.pass(1);
        x.keep();
        due("back() of two", x.back(), 1);
        due("MINUTES gone by, as KEPT last", x.count(2), 2);
        due("back() of one", x.back(), 0);
        due("MINUTES gone by, as KEPT first", x.count(2), 1);
        refused(x, "back() of none", x::back, NO);
    }
}
