/** Boundary cases of what comes and what is best, promises 16 to 21. */
final class ComingBounds extends Bounds {

    // ---- behind

    @Of(promise = 16, sentence = "BEHIND n (0 to 40) MINUTES at which place one is")
    void behind0To40Minutes() {
        KerbQueue x = laid(MEEK.repeat(7) + "s8;");
        due("behind(0, 0, 0)", x.behind(0, 0, 0), 0);
        due("behind(39, 4, 0)", x.behind(39, 4, 0), 0);
        due("behind(40, 4, 0), SERVED in MINUTE 40", x.behind(40, 4, 0), NONE);
        due("behind(40, 6, 0)", x.behind(40, 6, 0), 1);
        refused(x, "behind(41, 0, 0)", () -> x.behind(41, 0, 0), BAD);
        refused(x, "behind(-1, 0, 0)", () -> x.behind(-1, 0, 0), BAD);
    }

    @Of(promise = 16, sentence = "(0 the first; none: not in the QUEUE)")
    void behindOfTheFirstAndOfThoseOutOfTheQueue() {
        KerbQueue x = laid(MEEK_THREE + "s2;");
        x.leave(1);
        due("behind(0, 0, 0), the first", x.behind(0, 0, 0), 0);
        due("behind(0, 2, 0), the last", x.behind(0, 2, 0), 1);
        due("behind(1, 2, 0)", x.behind(1, 2, 0), 1);
        due("behind(2, 2, 0), the first then", x.behind(2, 2, 0), 0);
        refused(x, "behind(2, 0, 0), SERVED then", () -> x.behind(2, 0, 0), NONE);
        refused(x, "behind(0, 1, 0), AWAY", () -> x.behind(0, 1, 0), NONE);
        refused(x, "behind(40, 2, 0), nobody in the QUEUE", () -> x.behind(40, 2, 0), NONE);
    }

    @Of(promise = 16, sentence = "DUE of one then: what all owe it less what it owes all, and 200000.")
    void dueThenAboveAndBelow() {
        KerbQueue x = laid("p1,0,9,0;p0,20,1,0;p1,0,9,0;s9;d0,2,60;");
        due("behind(0, 0, 1)", x.behind(0, 0, 1), 199940);
        due("behind(1, 0, 1), pushed past", x.behind(1, 0, 1), 199960);
        due("behind(0, 1, 1), neither owed nor owing", x.behind(0, 1, 1), 200000);
        due("behind(1, 1, 1), having pushed", x.behind(1, 1, 1), 199980);
        due("behind(40, 2, 1), SERVED then", x.behind(40, 2, 1), 200060);
        x.leave(2);
        due("behind(0, 2, 1), AWAY", x.behind(0, 2, 1), 200060);
    }

    @Of(promise = 16, sentence = "BEHIND: the place (what = 0; NONE), DUE, and 200000 (1). BAD.")
    void whatIsToldOfBehind() {
        KerbQueue x = laid(MEEK_THREE);
        refused(x, "behind(0, 0, -1)", () -> x.behind(0, 0, -1), BAD);
        refused(x, "behind(0, 0, 2)", () -> x.behind(0, 0, 2), BAD);
        refused(x, "behind(0, 3, 0)", () -> x.behind(0, 3, 0), BAD);
        refused(x, "behind(0, -1, 1)", () -> x.behind(0, -1, 1), BAD);
        x.leave(0);
        refused(x, "behind(41, 0, 0) of one AWAY", () -> x.behind(41, 0, 0), BAD);
    }

    // ---- served

    @Of(promise = 17, sentence = "SERVED of one that is in the QUEUE: behind how many MINUTES (1 to 60) it is SERVED first; none.")
    void servedIn1To60Minutes() {
        KerbQueue x = laid(MEEK_SEVEN);
        due("served(0), by each 1", laid(MEEK + "s1;").served(0), 1);
        due("served(5), in MINUTE 54", x.served(5), 54);
        refused(x, "served(6), in 63 MINUTES", () -> x.served(6), NONE);
        x.pass(2);
        refused(x, "served(6), in 61 MINUTES", () -> x.served(6), NONE);
        x.pass(1);
        due("served(6), in 60 MINUTES", x.served(6), 60);
    }

    @Of(promise = 17, sentence = "SERVED. NONE; BAD; NO: it is not in the QUEUE.")
    void servedOfThoseOutOfTheQueue() {
        KerbQueue x = laid(MEEK_SEVEN + "s1;");
        x.pass(1);
        x.leave(1);
        refused(x, "served() of one SERVED", () -> x.served(0), NO);
        refused(x, "served() of one AWAY", () -> x.served(1), NO);
        refused(x, "served(7)", () -> x.served(7), BAD);
        refused(x, "served(-1)", () -> x.served(-1), BAD);
        x.come(0);
        due("served() of one come back, behind five", x.served(0), 6);
    }

    // ---- stand

    /** 0 is asked of; 4 pushes past it if it is just behind it: then 0, at the place 3, is SERVED in MINUTE 40. */
    private static final String PUSHED_AT_3 = "p1,0,9,0;" + "p1,5,9,0;".repeat(3) + "p0,5,1,0;" + "p1,5,9,0;".repeat(2) + "s8;";

    @Of(promise = 18, sentence = "STAND for one that is in the QUEUE, n (1 to 40)")
    void standingFor1To40Minutes() {
        KerbQueue x = laid(PUSHED_AT_3);
        due("stand(0, 40, 0)", x.stand(0, 40, 0), 3);
        due("stand(0, 40, 1)", x.stand(0, 40, 1), 200005);
        due("stand(0, 39, 0)", x.stand(0, 39, 0), 0);
        refused(x, "stand(0, 41, 0)", () -> x.stand(0, 41, 0), BAD);
        refused(x, "stand(0, 0, 0)", () -> x.stand(0, 0, 0), BAD);
        due("stand(1, 1, 0), by each 1", laid(MEEK.repeat(2) + "s1;").stand(1, 1, 0), 0);
    }

    @Of(promise = 18, sentence = "of all places at which it could be now, the others as they are, in their order")
    void standingFromTheFirstPlaceToTheLast() {
        KerbQueue last = laid("p0,5,2,0;p2,1,1,0;p1,20,9,0;s2;");
        due("stand(0, 6, 0), 0 owes none at the end alone", last.stand(0, 6, 0), 2);
        due("stand(0, 6, 1)", last.stand(0, 6, 1), 200000);
        due("stand(0, 5, 0), the end is too late", last.stand(0, 5, 0), 0);
        due("stand(0, 5, 1)", last.stand(0, 5, 1), 199996);
        KerbQueue first = laid("p1,20,9,0;p1,0,9,0;p0,9,1,0;s9;");
        due("stand(1, 27, 0), 2 is the second of the others", first.stand(1, 27, 0), 1);
        first.let(0, 2);
        due("stand(1, 27, 0), 2 is the first of the others", first.stand(1, 27, 0), 0);
        due("stand(1, 27, 1)", first.stand(1, 27, 1), 200009);
        KerbQueue alone = laid(MEEK + "s9;");
        due("stand(0, 9, 0), alone", alone.stand(0, 9, 0), 0);
    }

    @Of(promise = 18, sentence = "that by which it is SERVED in n MINUTES, and its DUE is most then, of several the first: which; how much; none.")
    void standingOfSeveralTheFirst() {
        KerbQueue x = laid(MEEK_THREE + "d0,2,60;");
        due("stand(2, 40, 0), all alike", x.stand(2, 40, 0), 0);
        due("stand(2, 40, 1)", x.stand(2, 40, 1), 200060);
        due("stand(0, 40, 1), below", x.stand(0, 40, 1), 199940);
        due("stand(2, 9, 0), SERVED in just 9", x.stand(2, 9, 0), 0);
        refused(x, "stand(2, 8, 0), SERVED in none of them", () -> x.stand(2, 8, 0), NONE);
        refused(x, "stand(2, 8, 1), SERVED in none of them", () -> x.stand(2, 8, 1), NONE);
    }

    @Of(promise = 18, sentence = "STAND: which place (what = 0), DUE, and 200000 (1). NONE; BAD; NO: it is not in the QUEUE.")
    void standingOfThoseOutOfTheQueue() {
        KerbQueue x = laid(MEEK_THREE + "s1;");
        x.pass(1);
        x.leave(1);
        refused(x, "stand() of one SERVED", () -> x.stand(0, 40, 0), NO);
        refused(x, "stand() of one AWAY", () -> x.stand(1, 40, 1), NO);
        refused(x, "stand(2, 40, 2)", () -> x.stand(2, 40, 2), BAD);
        refused(x, "stand(2, 40, -1)", () -> x.stand(2, 40, -1), BAD);
        refused(x, "stand(3, 40, 0)", () -> x.stand(3, 40, 0), BAD);
        refused(x, "stand(-1, 40, 0)", () -> x.stand(-1, 40, 0), BAD);
    }

    // ---- haste

    @Of(promise = 19, sentence = "of all two, of whom the one could LET the other one past now, none, too (as all is, first)")
    void hasteByNoneIsFirst() {
        KerbQueue x = laid(MEEK_THREE);
        due("haste(0, 0), the first", x.haste(0, 0), 99);
        due("haste(0, 1)", x.haste(0, 1), 9);
        KerbQueue alone = laid(MEEK + "s9;");
        due("haste(0, 0), alone", alone.haste(0, 0), 99);
        due("haste(0, 1), alone", alone.haste(0, 1), 9);
        KerbQueue away = laid(MEEK_THREE);
        away.leave(0);
        due("haste(1, 0), by none of those AWAY", away.haste(1, 0), 99);
        due("haste(2, 0), by one in the QUEUE", away.haste(2, 0), 12);
    }

    @Of(promise = 19, sentence = "that by which it is SERVED soonest, of several the first (by who LETS, then whom)")
    void hasteOfSeveralTheFirst() {
        KerbQueue whom = laid("p1,0,9,0;p0,9,1,0;p1,0,9,0;p1,0,9,0;s1;");
        due("served(0), 1 pushing past it", whom.served(0), 2);
        due("haste(0, 0), 1 LETS 2 or 3", whom.haste(0, 0), 12);
        due("haste(0, 1)", whom.haste(0, 1), 1);
        KerbQueue who = laid(MEEK.repeat(3) + "p2,0,1,0;s2;");
        who.let(0, 2);
        line("2 stands ahead of 0 and 1", who, 2, 0, 1, 3);
        due("haste(3, 0), 0, 1 or 2 LETS 3", who.haste(3, 0), 3);
        due("haste(3, 1)", who.haste(3, 1), 2);
    }

    @Of(promise = 19, sentence = "10 times the one, and the other (99: none is best); behind how many MINUTES")
    void hasteOfTheLowestAndHighestNumbers() {
        KerbQueue x = laid(MEEK_SEVEN + "s1;");
        due("haste(1, 0), 0 LETS 1", x.haste(1, 0), 1);
        x.let(0, 1);
        due("haste(0, 0), 1 LETS 0", x.haste(0, 0), 10);
        x.undo();
        for (int p = 5; p >= 0; p--) {
            x.let(p, 6);
        }
        x.let(6, 5);
        x.let(5, 6);
        line("6, then 5, are ahead", x, 6, 5, 0, 1, 2, 3, 4);
        due("haste(5, 0), 6 LETS 5", x.haste(5, 0), 65);
        due("haste(5, 1)", x.haste(5, 1), 1);
        due("haste(6, 0), none is best", x.haste(6, 0), 99);
        due("haste(6, 1)", x.haste(6, 1), 1);
    }

    @Of(promise = 19, sentence = "none (it is not SERVED in 60 by any).")
    void hasteIn60Minutes() {
        KerbQueue x = laid("p1,0,9,0;" + "p2,1,1,0;".repeat(6) + "s9;");
        x.pass(2);
        refused(x, "haste(0, 0), SERVED in 61", () -> x.haste(0, 0), NONE);
        refused(x, "haste(0, 1), SERVED in 61", () -> x.haste(0, 1), NONE);
        x.pass(1);
        due("haste(0, 0), SERVED in 60", x.haste(0, 0), 99);
        due("haste(0, 1), SERVED in 60", x.haste(0, 1), 60);
        KerbQueue y = laid(MEEK_SEVEN);
        due("haste(6, 0), none but by who LETS it past", y.haste(6, 0), 6);
        due("haste(6, 1)", y.haste(6, 1), 9);
    }

    @Of(promise = 19, sentence = "HASTE: who LETS whom (what = 0; 99: none is best), MINUTES (1). NONE; BAD; NO: it is not in the QUEUE.")
    void hasteOfThoseOutOfTheQueue() {
        KerbQueue x = laid(MEEK_THREE + "s1;");
        x.pass(1);
        x.leave(1);
        refused(x, "haste() of one SERVED", () -> x.haste(0, 0), NO);
        refused(x, "haste() of one AWAY", () -> x.haste(1, 1), NO);
        refused(x, "haste(2, 2)", () -> x.haste(2, 2), BAD);
        refused(x, "haste(2, -1)", () -> x.haste(2, -1), BAD);
        refused(x, "haste(3, 0)", () -> x.haste(3, 0), BAD);
        refused(x, "haste(-1, 0)", () -> x.haste(-1, 0), BAD);
    }

    // ---- clear

    @Of(promise = 20, sentence = "CLEAR: the fewest payments")
    void clearingFromNoneToSix() {
        due("clear(), no DUES", laid(MEEK_SEVEN).clear(), 0);
        due("clear(), one PERSON", laid(MEEK).clear(), 0);
        due("clear(), DUES of none by turns", laid(MEEK_SEVEN + "d0,1,60;d1,2,60;d2,0,60;").clear(), 0);
        due("clear(), one owes one", laid(MEEK_SEVEN + "d6,0,1;").clear(), 1);
        due("clear(), three pairs", laid(MEEK_SEVEN + "d0,1,1;d2,3,2;d4,5,3;").clear(), 3);
        due("clear(), two threes", laid(MEEK_SEVEN + "d0,1,1;d0,2,2;d3,4,3;d3,5,9;").clear(), 4);
        due("clear(), one owes all", laid(MEEK_SEVEN + "d0,1,1;d0,2,2;d0,3,3;d0,4,4;d0,5,5;d0,6,6;").clear(), 6);
    }

    @Of(promise = 20, sentence = "(each from one to another, of any sum, whatever they have) by which all DUES of now are none: how many.")
    void clearingWhateverTheyHave() {
        due("clear(), having nothing", laid(MEEK.repeat(2) + "d0,1,60;").clear(), 1);
        due("clear(), to one it owes nothing", laid(MEEK_THREE + "d0,1,60;d1,2,60;").clear(), 1);
        KerbQueue y = laid("p1,0,9,0;p0,20,1,0;s9;");
        due("clear() ahead of a push", y.clear(), 0);
        y.pass(1);
        due("clear() behind it, of now", y.clear(), 1);
        KerbQueue x = laid("p1,0,9,0;p0,20,1,0;s9;d1,0,60;");
        x.pass(1);
        due("DUE of more than 60", x.person(0, 6), 200080);
        due("clear(), a sum of more than 60", x.clear(), 1);
        x.leave(0);
        x.pass(24);
        due("clear(), nobody in the QUEUE", x.clear(), 1);
    }

    @Of(promise = 20, sentence = "CLEAR.")
    void clearingChangesNothing() {
        KerbQueue x = new KerbQueue();
        refused(x, "clear() at first", x::clear, 2);
    }

    // ---- miss

    @Of(promise = 21, sentence = "of several the lowest: which; how much, and 200000; none.")
    void missingOfSeveralTheLowest() {
        KerbQueue x = laid(MEEK_THREE);
        x.let(0, 2);
        x.let(0, 1);
        line("0 stands behind", x, 2, 1, 0);
        due("miss(0), all alike", x.miss(0), 0);
        due("miss(1), all alike", x.miss(1), 200000);
        x.leave(0);
        due("miss(0), two alike", x.miss(0), 1);
        KerbQueue last = laid(MEEK_SEVEN + "d6,0,1;");
        due("miss(0), the last one costs least", last.miss(0), 6);
        due("miss(1)", last.miss(1), 200001);
        KerbQueue below = laid(MEEK_THREE + "d0,1,60;");
        below.leave(1);
        due("miss(0), two in the QUEUE, of whom 0 owes", below.miss(0), 0);
        due("miss(1)", below.miss(1), 200000);
        below.leave(2);
        due("miss(0), one alone", below.miss(0), 0);
        due("miss(1), one alone, nobody else", below.miss(1), 200000);
    }

    @Of(promise = 21, sentence = "the one in the QUEUE by whose going AWAY now DUES of all others that are in the QUEUE now are most in sum behind 10 MINUTES")
    void missingCountsThoseInTheQueueAlone() {
        KerbQueue x = laid("p1,1,9,0;p1,1,9,0;p1,1,9,0;p1,1,9,0;s1;d0,1,9;d2,1,4;d3,2,7;");
        x.leave(3);
        due("miss(0)", x.miss(0), 0);
        due("miss(1), 1 has 13, 2 has 3", x.miss(1), 200016);
        due("those SERVED within 10 MINUTES count", x.behind(10, 1, 0), NONE);
        KerbQueue pushing = laid("p1,0,9,0;p0,9,1,0;s9;");
        due("miss(0), who goes pushes no more", pushing.miss(0), 0);
        due("miss(1), who goes pushes no more", pushing.miss(1), 200000);
        KerbQueue below = laid(MEEK_THREE + "d0,2,60;d1,2,60;");
        below.leave(2);
        due("miss(0), both owe 60", below.miss(0), 0);
        due("miss(1), below", below.miss(1), 199940);
    }

    @Of(promise = 21, sentence = "MISS: which (what = 0), how much, and 200000 (1). NONE: nobody is in the QUEUE; BAD.")
    void missingNobody() {
        KerbQueue x = laid(MEEK.repeat(2) + "s1;");
        refused(x, "miss(2)", () -> x.miss(2), BAD);
        refused(x, "miss(-1)", () -> x.miss(-1), BAD);
        x.pass(1);
        due("miss(0), one alone", x.miss(0), 1);
        x.leave(1);
        refused(x, "miss(0), nobody in the QUEUE", () -> x.miss(0), NONE);
        refused(x, "miss(1), nobody in the QUEUE", () -> x.miss(1), NONE);
        refused(x, "miss(2), nobody in the QUEUE", () -> x.miss(2), BAD);
    }
}
