/** Boundary cases of who stands where and owes whom how much, promises 6 to 9 and 30. */
final class StandingBounds extends Bounds {

    /** Owed 60 by each of six others, then owing 60 to each of them. */
    private static final String OWED_BY_ALL = "d1,0,60;d2,0,60;d3,0,60;d4,0,60;d5,0,60;d6,0,60;";
    private static final String OWING_TO_ALL = "d0,1,60;d0,2,60;d0,3,60;d0,4,60;d0,5,60;d0,6,60;";

    // ---- person

    @Of(promise = 6, sentence = "what it has (3)")
    void moneyFromNoneToMore() {
        KerbQueue x = laid("p1,1,9,0;p1,1,9,60;d1,0,60;");
        due("person(0, 3)", x.person(0, 3), 0);
        due("person(1, 3)", x.person(1, 3), 60);
        x.pay(1, 0);
        due("person(0, 3), paid", x.person(0, 3), 60);
        due("person(1, 3), having paid", x.person(1, 3), 0);
    }

    @Of(promise = 6, sentence = "its place (4; NONE: not in the QUEUE)")
    void placeInAndOutOfTheQueue() {
        KerbQueue x = laid(MEEK.repeat(7) + "s1;");
        due("person(0, 4)", x.person(0, 4), 0);
        due("person(6, 4)", x.person(6, 4), 6);
        x.pass(1);
        x.leave(6);
        due("person(0, 4), SERVED", x.person(0, 4), NONE);
        due("person(6, 4), AWAY", x.person(6, 4), NONE);
        due("person(1, 4), the first now", x.person(1, 4), 0);
    }

    @Of(promise = 6, sentence = "0 in the QUEUE, 1 SERVED, 2 AWAY (5)")
    void oneOfThree() {
        KerbQueue x = laid(MEEK_THREE + "s1;");
        x.pass(1);
        x.leave(2);
        due("person(1, 5), in the QUEUE", x.person(1, 5), 0);
        due("person(0, 5), SERVED", x.person(0, 5), 1);
        due("person(2, 5), AWAY", x.person(2, 5), 2);
        x.come(0);
        x.come(2);
        due("person(0, 5), come back", x.person(0, 5), 0);
        due("person(2, 5), come back", x.person(2, 5), 0);
    }

    @Of(promise = 6, sentence = "DUE now, and 200000 (6)")
    void dueFromLeastToMost() {
        due("owed nothing, owing nothing", laid(MEEK_SEVEN).person(0, 6), 200000);
        due("owed by all", laid(MEEK_SEVEN + OWED_BY_ALL).person(0, 6), 200360);
        due("owing to all", laid(MEEK_SEVEN + OWING_TO_ALL).person(0, 6), 199640);
        due("owed by all, owing to all", laid(MEEK_SEVEN + OWED_BY_ALL + OWING_TO_ALL).person(0, 6), 200000);
        KerbQueue alone = laid(MEEK);
        due("alone", alone.person(0, 6), 200000);
    }

    @Of(promise = 6, sentence = "2 AWAY (5), DUE now, and 200000 (6). BAD.")
    void whatIsToldOfAPerson() {
        KerbQueue x = laid(MEEK_THREE);
        refused(x, "person(0, -1)", () -> x.person(0, -1), BAD);
        refused(x, "person(0, 7)", () -> x.person(0, 7), BAD);
        refused(x, "person(-1, 0)", () -> x.person(-1, 0), BAD);
        refused(x, "person(3, 0)", () -> x.person(3, 0), BAD);
        due("person(2, 6)", x.person(2, 6), 200000);
    }

    // ---- owes, place

    @Of(promise = 7, sentence = "What one owes another.")
    void owingFromNoneToMore() {
        KerbQueue x = laid("p1,0,9,0;p0,20,1,0;s9;d1,0,60;");
        due("owes(0, 1)", x.owes(0, 1), 0);
        due("owes(1, 0)", x.owes(1, 0), 60);
        x.pass(1);
        due("owes(1, 0), 20 more", x.owes(1, 0), 80);
    }

    @Of(promise = 7, sentence = "BAD (alike, too).")
    void nobodyOwesItself() {
        KerbQueue x = laid(MEEK_THREE);
        for (int p = 0; p < 3; p++) {
            int one = p;
            refused(x, "owes(" + p + ", " + p + ")", () -> x.owes(one, one), BAD);
        }
        refused(x, "owes(3, 3)", () -> x.owes(3, 3), BAD);
        refused(x, "owes(3, 0)", () -> x.owes(3, 0), BAD);
        refused(x, "owes(0, -1)", () -> x.owes(0, -1), BAD);
    }

    @Of(promise = 8, sentence = "Who is at a place of the QUEUE (0 to 6).")
    void placesAre0To6() {
        KerbQueue x = laid(MEEK_SEVEN);
        due("place(0)", x.place(0), 0);
        due("place(6)", x.place(6), 6);
        refused(x, "place(-1)", () -> x.place(-1), BAD);
        refused(x, "place(7)", () -> x.place(7), BAD);
    }

    @Of(promise = 8, sentence = "NONE; BAD.")
    void placesBehindTheLastAreEmpty() {
        KerbQueue x = laid(MEEK_THREE);
        due("place(2) of three", x.place(2), 2);
        refused(x, "place(3) of three", () -> x.place(3), NONE);
        refused(x, "place(6) of three", () -> x.place(6), NONE);
        refused(x, "place(7) of three", () -> x.place(7), BAD);
        x.leave(0);
        refused(x, "place(2) of two", () -> x.place(2), NONE);
        x.leave(1);
        x.leave(2);
        refused(x, "place(0) of nobody", () -> x.place(0), NONE);
        refused(x, "place(-1) of nobody", () -> x.place(-1), BAD);
    }

    // ---- would

    @Of(promise = 9, sentence = "a PLAIN one, if a place is WORTH more to it than to that one")
    void plainOnesWouldForMore() {
        due("WORTH as much", laid("p1,5,9,0;p0,5,1,60;").would(1), 0);
        due("WORTH one more", laid("p1,5,9,0;p0,6,1,0;").would(1), 1);
        due("WORTH one less", laid("p1,5,9,0;p0,4,1,60;").would(1), 0);
        due("WORTH 20 to 0", laid("p1,0,9,0;p0,20,1,0;").would(1), 1);
        due("WORTH 0 to 0", laid("p1,0,9,0;p0,0,1,0;").would(1), 0);
    }

    @Of(promise = 9, sentence = "a MEEK one never")
    void meekOnesWouldNever() {
        due("WORTH 20 to 0", laid("p1,0,9,0;p1,20,1,60;").would(1), 0);
        due("WORTH 0 to 20", laid("p1,20,9,0;p1,0,1,60;").would(1), 0);
    }

    @Of(promise = 9, sentence = "a RUDE one always")
    void rudeOnesWouldAlways() {
        due("WORTH 0 to 20", laid("p1,20,9,0;p2,0,1,0;").would(1), 1);
        due("WORTH 0 to 0", laid("p1,0,9,0;p2,0,1,0;").would(1), 1);
        due("WORTH 20 to 0", laid("p1,0,9,0;p2,20,1,0;").would(1), 1);
    }

    @Of(promise = 9, sentence = "a SHARP one as a PLAIN one, if it has as much as that push alone would make it owe, or more.")
    void sharpOnesWouldForWhatTheyHave() {
        due("it has one less", laid("p1,5,9,0;p3,9,1,3;").would(1), 0);
        due("it has as much", laid("p1,5,9,0;p3,9,1,4;").would(1), 1);
        due("it has one more", laid("p1,5,9,0;p3,9,1,5;").would(1), 1);
        due("it has nothing, WORTH one more", laid("p1,5,9,0;p3,6,1,0;").would(1), 0);
        due("WORTH as much", laid("p1,5,9,0;p3,5,1,60;").would(1), 0);
        due("WORTH as much, it has nothing", laid("p1,5,9,0;p3,5,1,0;").would(1), 0);
        due("WORTH less", laid("p1,5,9,0;p3,4,1,60;").would(1), 0);
        due("it has one, WORTH one more", laid("p1,5,9,0;p3,6,1,1;").would(1), 1);
        due("that push alone, whatever it owes", laid("p1,5,9,0;p3,9,1,4;d1,0,60;").would(1), 1);
    }

    @Of(promise = 9, sentence = "1 if one WOULD push past the one just ahead now (whatever the MINUTE), 0.")
    void wouldIsNotOfAMinute() {
        KerbQueue x = laid("p1,1,9,0;p2,1,9,0;p1,1,9,0;s9;");
        due("would(1) ahead of MINUTE 1", x.would(1), 1);
        due("would(2) ahead of MINUTE 1", x.would(2), 0);
        x.pass(7);
        due("would(1) ahead of MINUTE 8", x.would(1), 1);
        x.leave(1);
        x.come(1);
        due("would(1), the last now", x.would(1), 1);
        KerbQueue y = laid("p1,9,9,0;p1,1,9,0;p0,5,9,0;p0,3,9,0;s9;");
        due("would(2), 1 being just ahead", y.would(2), 1);
        due("would(3), 2 being just ahead", y.would(3), 0);
    }

    @Of(promise = 9, sentence = "BAD; NO: it is not in the QUEUE, or the first.")
    void wouldOfTheFirstAndOfThoseOutOfTheQueue() {
        KerbQueue x = laid("p2,1,9,0;p2,1,9,0;p2,1,9,0;p2,1,9,0;s1;");
        refused(x, "would() of the first", () -> x.would(0), NO);
        due("would() of the second", x.would(1), 1);
        x.pass(1);
        refused(x, "would() of one SERVED", () -> x.would(0), NO);
        refused(x, "would() of the first now", () -> x.would(1), NO);
        x.leave(3);
        refused(x, "would() of one AWAY", () -> x.would(3), NO);
        due("would() of the second now", x.would(2), 1);
        x.leave(1);
        refused(x, "would() of one alone", () -> x.would(2), NO);
        refused(x, "would(4)", () -> x.would(4), BAD);
        refused(x, "would(-1)", () -> x.would(-1), BAD);
    }

    // ---- count

    @Of(promise = 30, sentence = "How many: 0 PERSONS, 1 S, 2 MINUTES gone by, 3 in the QUEUE, 4 SERVED, 5 AWAY, 6 owed in all")
    void leastAndMostThatStand() {
        KerbQueue one = laid(MEEK + "s1;");
        int[] least = {1, 1, 0, 1, 0, 0, 0, 0, 0, 0, MEEK.length() + 3};
        for (int what = 0; what < least.length; what++) {
            due("count(" + what + ") of one", one.count(what), least[what]);
        }
        KerbQueue seven = laid(MEEK_SEVEN + OWED_BY_ALL + OWING_TO_ALL);
        int[] most = {7, 9, 0, 7, 0, 0, 720, 0, 0, 0, 162};
        for (int what = 0; what < most.length; what++) {
            due("count(" + what + ") of seven", seven.count(what), most[what]);
        }
        passTo(seven, 999);
        due("count(2), the most", seven.count(2), 999);
        due("count(3), nobody", seven.count(3), 0);
        due("count(4), all", seven.count(4), 7);
    }

    @Of(promise = 30, sentence = "5 AWAY, 6 owed in all, 7 SEEN, 8 that can be UNDONE, 9 KEPT, 10 letters of THE TEXT. BAD.")
    void mostThatCanBe() {
        KerbQueue x = laid(MEEK_SEVEN);
        for (int p = 0; p < 7; p++) {
            x.leave(p);
        }
        due("count(5), all", x.count(5), 7);
        for (int i = 0; i < 9; i++) {
            x.see(0, 1, 0);
            x.pass(1);
            x.keep();
        }
        Check.write(x, " ".repeat(201));
        due("count(7), the most", x.count(7), 6);
        due("count(8), the most", x.count(8), 8);
        due("count(9), the most", x.count(9), 2);
        due("count(10), the most", x.count(10), 200);
        due("count(0)", x.count(0), 7);
    }

    @Of(promise = 30, sentence = "10 letters of THE TEXT. BAD.")
    void whatCanBeCounted() {
        KerbQueue x = new KerbQueue();
        refused(x, "count(-1)", () -> x.count(-1), BAD);
        refused(x, "count(11)", () -> x.count(11), BAD);
        due("count(0)", x.count(0), 6);
        due("count(10)", x.count(10), 0);
    }
}
