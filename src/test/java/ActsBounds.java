/** Boundary cases of MINUTES and acts, promises 10 to 15. */
final class ActsBounds extends Bounds {

    // ---- what is done in a MINUTE

    @Of(promise = 10, sentence = "each that is in the QUEUE, as it is ahead of the MINUTE, from the second on to the last one")
    void theFirstNeverPushesTheLastDoes() {
        KerbQueue alone = laid("p2,20,1,60;s9;");
        alone.pass(1);
        line("one alone", alone, 0);
        KerbQueue two = laid("p2,9,1,60;p1,1,9,0;s9;");
        two.pass(1);
        line("a RUDE one ahead", two, 0, 1);
        due("owed in all", two.count(6), 0);
        KerbQueue seven = laid(MEEK.repeat(6) + "p2,5,1,0;s9;");
        seven.pass(1);
        line("a RUDE one at the end", seven, 0, 1, 2, 3, 4, 6, 5);
        due("owes(6, 5)", seven.owes(6, 5), 4);
        KerbQueue rude = laid("p2,3,1,0;p2,2,1,0;p2,1,1,0;s9;");
        rude.pass(1);
        line("the first has no turn when it is second", rude, 1, 2, 0);
        due("owed in all by RUDE ones", rude.count(6), 0);
        KerbQueue away = laid("p2,3,1,0;p2,2,1,0;p2,1,1,0;s9;");
        away.leave(0);
        away.pass(1);
        line("the second of those in the QUEUE", away, 2, 1);
    }

    @Of(promise = 10, sentence = "if the number of the MINUTE is T, twice T, three times T, ..")
    void pushesAtEachTimesT() {
        KerbQueue x = laid("p1,1,9,0;p2,1,9,0;p1,1,9,0;p1,1,9,0;p1,1,9,0;s9;");
        x.pass(8);
        line("MINUTE 8", x, 0, 1, 2, 3, 4);
        x.pass(1);
        line("MINUTE 9, 1 pushes and is SERVED", x, 0, 2, 3, 4);
        x.come(1);
        x.pass(8);
        line("MINUTE 17", x, 0, 2, 3, 4, 1);
        x.pass(1);
        line("MINUTE 18", x, 2, 3, 1, 4);
        x.pass(9);
        line("MINUTE 27", x, 1, 3, 4);
        KerbQueue y = laid("p1,1,9,0;p1,1,9,0;p1,1,9,0;p2,1,1,0;s9;");
        y.pass(1);
        line("MINUTE 1 by T 1", y, 0, 1, 3, 2);
        y.pass(1);
        line("MINUTE 2 by T 1", y, 0, 3, 1, 2);
    }

    @Of(promise = 10, sentence = "and it WOULD push past the one who is just ahead of it then, it does, once.")
    void pushesAreOfThatMomentAndOnce() {
        KerbQueue then = laid("p0,5,1,0;p0,9,1,0;p0,7,1,0;s9;");
        then.pass(1);
        line("2 is just behind 0 when 1 has pushed", then, 1, 2, 0);
        due("owes(2, 0)", then.owes(2, 0), 2);
        KerbQueue once = laid("p1,0,9,0;p1,0,9,0;p0,20,1,0;s9;");
        once.pass(1);
        line("one push in a MINUTE", once, 0, 2, 1);
        due("owed in all", once.count(6), 20);
        KerbQueue sharp = laid("p1,1,9,0;p1,2,9,0;p3,5,1,3;s9;");
        sharp.pass(2);
        line("a SHARP one has 3 for the first, not 4 for the second", sharp, 0, 2, 1);
    }

    @Of(promise = 10, sentence = "owes it then so much more as a place is WORTH to itself more than to that one (0 at least)")
    void debtsByPushesAreNoneAtLeast() {
        KerbQueue less = laid("p1,20,9,0;p2,0,1,0;s9;d1,0,60;");
        less.pass(1);
        line("WORTH 20 less", less, 1, 0);
        due("owes(1, 0) stays", less.owes(1, 0), 60);
        due("owes(0, 1) stays", less.owes(0, 1), 0);
        KerbQueue same = laid("p1,7,9,0;p2,7,1,0;s9;");
        same.pass(1);
        line("WORTH as much", same, 1, 0);
        due("owed in all", same.count(6), 0);
        KerbQueue more = laid("p1,0,9,0;p2,20,1,0;s9;d1,0,60;d0,1,60;");
        more.pass(1);
        due("owes(1, 0), 20 more", more.owes(1, 0), 80);
        due("owes(0, 1) stays, too", more.owes(0, 1), 60);
    }

    @Of(promise = 10, sentence = "Then, if that number is S, twice S, .., the first one in the QUEUE is SERVED, and is in it no more.")
    void servedAtEachTimesS() {
        KerbQueue x = laid(MEEK_THREE);
        x.pass(8);
        line("MINUTE 8", x, 0, 1, 2);
        x.pass(1);
        line("MINUTE 9", x, 1, 2);
        x.pass(8);
        line("MINUTE 17", x, 1, 2);
        x.pass(1);
        line("MINUTE 18", x, 2);
        KerbQueue y = laid(MEEK.repeat(2) + "s1;");
        y.pass(1);
        line("MINUTE 1 by S 1", y, 1);
        due("SERVED", y.count(4), 1);
        y.pass(1);
        line("MINUTE 2 by S 1", y);
        due("pass(1), nobody in the QUEUE", y.pass(1), 3);
        due("SERVED, nobody more", y.count(4), 2);
        KerbQueue pushed = laid("p1,1,9,0;p2,1,1,0;s1;");
        pushed.pass(1);
        line("who has pushed is the first then", pushed, 0);
    }

    // ---- pass

    @Of(promise = 10, sentence = "n MINUTES (1 to 24) go by: how many have gone by in all.")
    void minutesAre1To24() {
        KerbQueue x = laid(MEEK_THREE);
        refused(x, "pass(0)", () -> x.pass(0), BAD);
        refused(x, "pass(25)", () -> x.pass(25), BAD);
        refused(x, "pass(-1)", () -> x.pass(-1), BAD);
        due("pass(1)", x.pass(1), 1);
        due("pass(24)", x.pass(24), 25);
    }

    @Of(promise = 10, sentence = "(999 can go by)")
    void theMinute999CanGoBy() {
        KerbQueue x = laid("p1,1,9,0;p2,1,9,0;p1,1,9,0;s9;");
        passTo(x, 998);
        x.come(0);
        x.come(1);
        line("MINUTE 998", x, 0, 1);
        due("pass(1)", x.pass(1), 999);
        line("MINUTE 999 is a time of T and of S", x, 0);
    }

    @Of(promise = 10, sentence = "BAD; NO: beyond 999.")
    void noMinuteBeyond999() {
        KerbQueue x = laid(MEEK);
        passTo(x, 975);
        due("pass(24) at 975", x.pass(24), 999);
        refused(x, "pass(1) at 999", () -> x.pass(1), NO);
        refused(x, "pass(24) at 999", () -> x.pass(24), NO);
        refused(x, "pass(25) at 999", () -> x.pass(25), BAD);
        refused(x, "pass(0) at 999", () -> x.pass(0), BAD);
        x.undo();
        x.pass(1);
        refused(x, "pass(24) at 976", () -> x.pass(24), NO);
        due("pass(23) at 976", x.pass(23), 999);
    }

    // ---- let

    @Of(promise = 11, sentence = "One LETS another one that is behind it in the QUEUE past: that one stands just ahead of it, and nothing is owed by it.")
    void lettingFromJustBehindAndFromTheEnd() {
        KerbQueue x = laid("p1,0,9,0;p1,1,9,0;p1,20,9,0;p2,20,9,0;s9;d3,0,7;");
        x.let(0, 3);
        line("the last past the first", x, 3, 0, 1, 2);
        x.let(1, 2);
        line("the last past the one just ahead", x, 3, 0, 2, 1);
        x.let(3, 2);
        line("one between past the first", x, 2, 3, 0, 1);
        due("owes(3, 0), as before", x.owes(3, 0), 7);
        due("owed in all, as before", x.count(6), 7);
    }

    @Of(promise = 11, sentence = "One LETS another one past: the place of that one then.")
    void placesOfThoseWhoWereLetPast() {
        KerbQueue x = laid(MEEK_SEVEN);
        due("let(0, 6)", x.let(0, 6), 0);
        due("let(4, 5), the last two", x.let(4, 5), 5);
        line("behind both", x, 6, 0, 1, 2, 3, 5, 4);
    }

    @Of(promise = 11, sentence = "BAD (alike, too); NO: they are not both in the QUEUE; that one is not behind it.")
    void nobodyLetsItself() {
        KerbQueue x = laid(MEEK_THREE);
        refused(x, "let(0, 0)", () -> x.let(0, 0), BAD);
        refused(x, "let(2, 2)", () -> x.let(2, 2), BAD);
        x.leave(1);
        refused(x, "let(1, 1) by one AWAY", () -> x.let(1, 1), BAD);
        refused(x, "let(3, 0)", () -> x.let(3, 0), BAD);
        refused(x, "let(0, 3)", () -> x.let(0, 3), BAD);
    }

    @Of(promise = 11, sentence = "NO: they are not both in the QUEUE")
    void bothMustBeInTheQueue() {
        KerbQueue x = laid(MEEK.repeat(4) + "s1;");
        x.pass(1);
        x.leave(3);
        refused(x, "let() of one AWAY", () -> x.let(1, 3), NO);
        refused(x, "let() by one AWAY", () -> x.let(3, 1), NO);
        refused(x, "let() of one SERVED", () -> x.let(1, 0), NO);
        refused(x, "let() by one SERVED", () -> x.let(0, 1), NO);
        refused(x, "let() of and by those", () -> x.let(0, 3), NO);
        due("let() of both in the QUEUE", x.let(1, 2), 0);
    }

    @Of(promise = 11, sentence = "that one is not behind it.")
    void thatOneMustBeBehindIt() {
        KerbQueue x = laid(MEEK_THREE);
        refused(x, "let() of the one just ahead", () -> x.let(1, 0), NO);
        refused(x, "let() by the last of the first", () -> x.let(2, 0), NO);
        due("let() of the one just behind", x.let(0, 1), 0);
        refused(x, "let() of that one again", () -> x.let(0, 1), NO);
        due("let() back", x.let(1, 0), 0);
    }

    // ---- leave, come

    @Of(promise = 12, sentence = "One goes AWAY: how many are in the QUEUE.")
    void leavingTillNobodyIsThere() {
        KerbQueue x = laid(MEEK_SEVEN);
        due("leave() by the last of seven", x.leave(6), 6);
        due("leave() by the first of six", x.leave(0), 5);
        due("leave() by one between", x.leave(3), 4);
        line("four are left", x, 1, 2, 4, 5);
        x.leave(1);
        x.leave(2);
        due("leave() by one of two", x.leave(4), 1);
        due("leave() by one alone", x.leave(5), 0);
        line("nobody is left", x);
    }

    @Of(promise = 12, sentence = "BAD; NO: it is not in the QUEUE.")
    void whoIsOutOfTheQueueCannotLeave() {
        KerbQueue x = laid(MEEK_THREE + "s1;");
        x.pass(1);
        x.leave(1);
        refused(x, "leave() by one SERVED", () -> x.leave(0), NO);
        refused(x, "leave() by one AWAY", () -> x.leave(1), NO);
        refused(x, "leave(3)", () -> x.leave(3), BAD);
        refused(x, "leave(-1)", () -> x.leave(-1), BAD);
        due("one SERVED stays so", x.person(0, 5), 1);
    }

    @Of(promise = 13, sentence = "one that is AWAY, or SERVED, comes back to the end of it.")
    void comingBackIsToTheEnd() {
        KerbQueue x = laid(MEEK_THREE + "s1;");
        x.pass(1);
        x.leave(1);
        x.come(1);
        line("one AWAY comes back", x, 2, 1);
        x.come(0);
        line("one SERVED comes back", x, 2, 1, 0);
        due("SERVED and AWAY", x.count(4) + x.count(5), 0);
        x.pass(3);
        due("SERVED anew", x.count(4), 3);
    }

    @Of(promise = 13, sentence = "One comes back: its place.")
    void comingBackToNobodyAndToAll() {
        KerbQueue x = laid(MEEK_SEVEN);
        x.leave(0);
        due("come() behind six", x.come(0), 6);
        for (int p = 0; p < 7; p++) {
            x.leave(p);
        }
        due("come() to nobody", x.come(3), 0);
        due("come() behind one", x.come(0), 1);
    }

    @Of(promise = 13, sentence = "BAD; NO: it is in the QUEUE.")
    void whoIsInTheQueueCannotComeBack() {
        KerbQueue x = laid(MEEK_THREE);
        refused(x, "come() by the first", () -> x.come(0), NO);
        refused(x, "come() by the last", () -> x.come(2), NO);
        refused(x, "come(3)", () -> x.come(3), BAD);
        refused(x, "come(-1)", () -> x.come(-1), BAD);
        x.leave(0);
        x.come(0);
        refused(x, "come() by one come back", () -> x.come(0), NO);
    }

    // ---- pay

    private void payment(int money, int debt, int paid) {
        KerbQueue x = laid("p1,1,9," + money + ";p1,1,9,60;s9;d0,1," + debt + ";d1,0,60;");
        String told = ", having " + money + ", owing " + debt;
        due("pay(0, 1)" + told, x.pay(0, 1), paid);
        due("owes(0, 1)" + told, x.owes(0, 1), debt - paid);
        due("person(0, 3)" + told, x.person(0, 3), money - paid);
        due("person(1, 3)" + told, x.person(1, 3), 60 + paid);
        due("owes(1, 0)" + told, x.owes(1, 0), 60);
    }

    @Of(promise = 14, sentence = "One PAYS another one what it owes it, as far as it has so much.")
    void payingWithLessAsMuchAndMore() {
        payment(1, 60, 1);
        payment(59, 60, 59);
        payment(60, 60, 60);
        payment(60, 59, 59);
        payment(60, 1, 1);
        payment(1, 1, 1);
    }

    @Of(promise = 14, sentence = "One PAYS another one: how much.")
    void payingByThoseOutOfTheQueue() {
        KerbQueue x = laid("p1,1,9,9;p1,1,9,9;p1,1,9,9;s1;d0,1,4;d1,0,5;");
        x.pass(1);
        x.leave(1);
        due("pay() by one SERVED", x.pay(0, 1), 4);
        due("pay() by one AWAY", x.pay(1, 0), 5);
    }

    @Of(promise = 14, sentence = "BAD (alike, too); NO: it owes it nothing; it has nothing.")
    void nobodyPaysItself() {
        KerbQueue x = laid("p1,1,9,60;p1,1,9,60;s9;d0,1,5;");
        refused(x, "pay(0, 0)", () -> x.pay(0, 0), BAD);
        refused(x, "pay(1, 1)", () -> x.pay(1, 1), BAD);
        refused(x, "pay(2, 2)", () -> x.pay(2, 2), BAD);
        refused(x, "pay(0, 2)", () -> x.pay(0, 2), BAD);
        refused(x, "pay(-1, 1)", () -> x.pay(-1, 1), BAD);
    }

    @Of(promise = 14, sentence = "NO: it owes it nothing")
    void payingWhatIsNotOwed() {
        KerbQueue x = laid("p1,1,9,60;p1,1,9,60;p1,1,9,60;s9;d0,1,5;");
        refused(x, "pay(1, 0), being owed", () -> x.pay(1, 0), NO);
        refused(x, "pay(0, 2), owing another one", () -> x.pay(0, 2), NO);
        x.pay(0, 1);
        refused(x, "pay(0, 1), all being paid", () -> x.pay(0, 1), NO);
    }

    @Of(promise = 14, sentence = "it has nothing.")
    void payingWithoutMoney() {
        KerbQueue x = laid("p1,1,9,0;p1,1,9,3;s9;d0,1,5;d1,0,3;");
        refused(x, "pay(0, 1), having nothing", () -> x.pay(0, 1), NO);
        x.pay(1, 0);
        due("pay(0, 1), having been paid", x.pay(0, 1), 3);
        refused(x, "pay(0, 1), having nothing more", () -> x.pay(0, 1), NO);
    }

    // ---- undo

    @Of(promise = 15, sentence = "UNDONE are the latest of these, of MINUTES (all that go by at one time are one; the last 8 can be).")
    void theLatestEightCanBeUndone() {
        KerbQueue x = laid(MEEK_SEVEN);
        x.leave(0);
        x.pass(24);
        for (int act = 3; act <= 9; act++) {
            x.pass(act % 2 + 1);
        }
        due("count(8) behind nine acts", x.count(8), 8);
        due("count(2) behind nine acts", x.count(2), 35);
        int[] minutes = {24, 26, 27, 29, 30, 32, 33};
        for (int left = 7; left >= 1; left--) {
            due("undo()", x.undo(), left);
            due("count(2), " + left + " left", x.count(2), minutes[left - 1]);
        }
        due("undo() of 24 MINUTES at one time", x.undo(), 0);
        due("count(2), all MINUTES undone", x.count(2), 0);
        refused(x, "undo() of a ninth", x::undo, NO);
        line("the ninth stays", x, 1, 2, 3, 4, 5, 6);
    }

    @Of(promise = 15, sentence = "UNDONE: how many more can be.")
    void howManyMoreCanBeUndone() {
        KerbQueue x = laid("p1,1,9,9;p1,1,9,9;p1,1,9,9;s1;d0,1,4;");
        String ahead = picture(x);
        x.pass(1);
        x.let(1, 2);
        x.leave(1);
        x.come(0);
        x.pay(0, 1);
        due("count(8), one of each", x.count(8), 5);
        for (int left = 4; left >= 0; left--) {
            due("undo()", x.undo(), left);
        }
        due("all stands as ahead of them", picture(x).equals(ahead) ? 1 : 0, 1);
        x.pass(1);
        due("undo() of what was done anew", x.undo(), 0);
    }

    @Of(promise = 15, sentence = "UNDONE: how many more can be. NO.")
    void nothingToBeUndone() {
        KerbQueue x = new KerbQueue();
        refused(x, "undo() at first", x::undo, NO);
        x.pass(0);
        x.let(1, 0);
        x.leave(6);
        x.come(0);
        x.pay(0, 1);
        refused(x, "undo() behind what could not be done", x::undo, NO);
        x.write('p');
        x.see(0, 1, 0);
        x.keep();
        x.forget();
        x.wipe();
        refused(x, "undo() behind what is no act", x::undo, NO);
        x.pass(1);
        x.undo();
        refused(x, "undo() behind the only one", x::undo, NO);
        due("KEPT stays", x.count(9), 1);
    }
}
