/** Boundary cases of a TEXT and its FAULT, promises 1 to 5. */
final class TextBounds extends Bounds {
    private static final String ONE = "p0,1,1,1;";
    private static final String TWO = ONE.repeat(2);
    private static final String SEVEN = ONE.repeat(7);

    /** 200 letters, of them the last eight a d. */
    private static final String FULL_TEXT = SEVEN + "s4;".repeat(19) + "d0,1,07;" + "d0,1,60;".repeat(9);

    private void fault(String text, int want) {
        due("fault() of " + text, written(text).fault(), want);
    }

    // ---- a new object

    @Of(promise = 1, sentence = "As told; THE TEXT is empty.")
    void newTextIsEmpty() {
        due("count(10)", new KerbQueue().count(10), 0);
        due("wipe()", new KerbQueue().wipe(), 0);
        due("write('p')", new KerbQueue().write('p'), 1);
        due("fault()", new KerbQueue().fault(), NONE);
        due("lay()", new KerbQueue().lay(), NO);
    }

    @Of(promise = 1, sentence = "at first p0,5,3,20;p1,9,2,4;p2,7,2,30;p3,12,4,15;p0,3,1,9;p2,15,5,60;s4;d5,1,6;d2,0,3;")
    void newObjectIsLaidAlready() {
        String told = "p0,5,3,20;p1,9,2,4;p2,7,2,30;p3,12,4,15;p0,3,1,9;p2,15,5,60;s4;d5,1,6;d2,0,3;";
        KerbQueue written = laid(told);
        written.wipe();
        due("as if that TEXT were LAID", picture(new KerbQueue()).equals(picture(written)) ? 1 : 0, 1);
        due("PERSONS", new KerbQueue().count(0), 6);
        due("owed in all", new KerbQueue().count(6), 9);
    }

    @Of(promise = 1, sentence = "At first MINUTE 1 is next, nobody is SERVED, AWAY.")
    void newObjectIsAheadOfAll() {
        KerbQueue x = new KerbQueue();
        due("MINUTES gone by", x.count(2), 0);
        due("SERVED", x.count(4), 0);
        due("AWAY", x.count(5), 0);
        due("pass(1)", x.pass(1), 1);
    }

    @Of(promise = 1, sentence = "An object is used for at most 512 calls after it has been made")
    void theLastCallAnswersAsTheFirst() {
        KerbQueue x = new KerbQueue();
        for (int call = 1; call <= 511; call++) {
            due("call " + call + ", of pass(1) and undo() in turn", call % 2 == 1 ? x.pass(1) : x.undo(), call % 2);
        }
        due("call 512, undo()", x.undo(), 0);
    }

    // ---- write, wipe

    @Of(promise = 2, sentence = "A TEXT is letters (200 at most)")
    void writingEndsAt200() {
        KerbQueue x = new KerbQueue();
        for (int letter = 1; letter <= 200; letter++) {
            due("write(' '), letter " + letter, x.write(' '), letter);
        }
        refused(x, "write(' '), letter 201", () -> x.write(' '), FULL);
    }

    @Of(promise = 2, sentence = "A letter (32 to 126, as in ASCII) comes behind THE TEXT")
    void lettersAre32To126() {
        KerbQueue x = new KerbQueue();
        refused(x, "write(31)", () -> x.write(31), BAD);
        refused(x, "write(127)", () -> x.write(127), BAD);
        due("write(32)", x.write(32), 1);
        due("write(126)", x.write(126), 2);
    }

    @Of(promise = 2, sentence = "how long it is. BAD; FULL.")
    void writingIntoAnEmptyAndAFullText() {
        KerbQueue x = new KerbQueue();
        due("write('s') into an empty TEXT", x.write('s'), 1);
        Check.write(x, "x".repeat(198));
        due("write('x') with room for one", x.write('x'), 200);
        due("write('x') without room", x.write('x'), FULL);
        due("write(127) without room", x.write(127), BAD);
        x.wipe();
        due("write('x') when wiped", x.write('x'), 1);
    }

    @Of(promise = 3, sentence = "THE TEXT is empty: how long it was.")
    void wipingAnEmptyAndAFullText() {
        KerbQueue x = new KerbQueue();
        due("wipe() of an empty TEXT", x.wipe(), 0);
        x.write('p');
        due("wipe() of one letter", x.wipe(), 1);
        Check.write(x, FULL_TEXT);
        due("wipe() of a full TEXT", x.wipe(), 200);
        due("count(10)", x.count(10), 0);
        due("wipe() again", x.wipe(), 0);
        Check.write(x, "s4;");
        x.wipe();
        Check.write(x, "s4");
        due("fault() of s4, the ; being wiped", x.fault(), 0);
    }

    // ---- FAULT, of letters, figures and signs

    @Of(promise = 4, sentence = "A TEXT is letters (200 at most)")
    void aFullTextIsReadToItsEnd() {
        due("how long it is", FULL_TEXT.length(), 200);
        fault(FULL_TEXT, NONE);
        fault(FULL_TEXT.substring(0, 199), 192);
        fault(FULL_TEXT.substring(0, 199) + ",", 192);
        fault(FULL_TEXT.substring(0, 192) + "d0,1,6;;", 199);
    }

    @Of(promise = 4, sentence = "ITEMS one behind the other, each a letter")
    void itemsBeginWithOneOfThreeLetters() {
        fault("q0,1,1,1;", 0);
        fault("P0,1,1,1;", 0);
        fault("S4;", 0);
        fault("D0,1,1;", 0);
        fault("4;", 0);
        fault("ss4;", 0);
        fault(" s4;", 0);
        fault("s4; s4;", 3);
        fault("s4; ", 3);
    }

    @Of(promise = 4, sentence = "then numbers (one or two figures)")
    void numbersAreOfOneOrTwoFigures() {
        fault("s4;", NONE);
        fault("s04;", NONE);
        fault("p00,01,01,01;", NONE);
        fault("s;", 0);
        fault("s004;", 0);
        fault("p,1,1,1;", 0);
        fault("p0,1,1,;", 0);
        fault("p0,1,1,001;", 0);
        fault("p000,1,1,1;", 0);
        fault(TWO + "d0,1,;", 18);
        fault(TWO + "d0,1,000;", 18);
        fault("s-4;", 0);
        fault("s+4;", 0);
        fault("s 4;", 0);
        fault("s4 ;", 0);
        fault("s/;", 0);
        fault("s:;", 0);
    }

    @Of(promise = 4, sentence = "parted by ,")
    void numbersArePartedByCommas() {
        fault("p0;1;1;1;", 0);
        fault("p0 1 1 1;", 0);
        fault("p0.1,1,1;", 0);
        fault("p0,1,1.1;", 0);
        fault("p0,,1,1,1;", 0);
        fault("p,0,1,1,1;", 0);
    }

    @Of(promise = 4, sentence = "and a ; behind the last one")
    void itemsEndWithASemicolon() {
        fault("s4", 0);
        fault("s", 0);
        fault("s4,", 0);
        fault("s4:", 0);
        fault("s4;;", 3);
        fault("p0,1,1,1", 0);
        fault("p0,1,1,1,", 0);
        fault("p0,1,1,1p0,1,1,1;", 0);
        fault(TWO + "d0,1,1", 18);
    }

    // ---- FAULT, of numbers

    @Of(promise = 4, sentence = "pK,W,T,M a PERSON")
    void personsHaveFourNumbers() {
        fault("p0,1,1,1;", NONE);
        fault("p0,1,1;", 0);
        fault("p0,1,1,1,1;", 0);
        fault("p;", 0);
    }

    @Of(promise = 4, sentence = "of KIND K (0 PLAIN, 1 MEEK, 2 RUDE, 3 SHARP)")
    void kindsAre0To3() {
        for (int kind = 0; kind <= 3; kind++) {
            fault("p" + kind + ",1,1,1;", NONE);
            due("person(0, 0)", laid("p" + kind + ",1,1,1;").person(0, 0), kind);
        }
        fault("p4,1,1,1;", 0);
        fault("p10,1,1,1;", 0);
        fault("p99,1,1,1;", 0);
    }

    @Of(promise = 4, sentence = "to whom a place is WORTH W (0 to 20)")
    void worthsAre0To20() {
        fault("p0,0,1,1;", NONE);
        fault("p0,20,1,1;", NONE);
        fault("p0,21,1,1;", 0);
        fault("p0,99,1,1;", 0);
    }

    @Of(promise = 4, sentence = "who pushes each T (1 to 9) MINUTES")
    void pushesAreEach1To9Minutes() {
        fault("p0,1,1,1;", NONE);
        fault("p0,1,9,1;", NONE);
        fault("p0,1,0,1;", 0);
        fault("p0,1,00,1;", 0);
        fault("p0,1,10,1;", 0);
    }

    @Of(promise = 4, sentence = "has M (0 to 60)")
    void moneyIs0To60() {
        fault("p0,1,1,0;", NONE);
        fault("p0,1,1,60;", NONE);
        fault("p0,1,1,61;", 0);
        fault("p0,1,1,99;", 0);
    }

    @Of(promise = 4, sentence = "7 at most, 0, 1, .., in the QUEUE in this order, 0 ahead")
    void personsAreSevenAtMost() {
        fault(SEVEN, NONE);
        fault(SEVEN + ONE, 63);
        fault(SEVEN + "s4;" + ONE, 66);
        fault(SEVEN + ONE + "x", 63);
    }

    @Of(promise = 4, sentence = "sS one is SERVED each S (1 to 9) MINUTES")
    void servicesAreEach1To9Minutes() {
        fault("s1;", NONE);
        fault("s9;", NONE);
        fault("s0;", 0);
        fault("s00;", 0);
        fault("s10;", 0);
        fault("s4,4;", 0);
        fault("s4;s0;", 3);
    }

    @Of(promise = 4, sentence = "dA,B,D A owes B")
    void debtsHaveThreeNumbers() {
        fault(TWO + "d0,1,1;", NONE);
        fault(TWO + "d0,1;", 18);
        fault(TWO + "d0,1,1,1;", 18);
        fault(TWO + "d;", 18);
    }

    @Of(promise = 4, sentence = "(unlike, told ahead)")
    void debtsAreOfTwoUnlikePersonsToldAhead() {
        fault(TWO + "d0,0,1;", 18);
        fault(TWO + "d1,1,0;", 18);
        fault("d0,1,1;" + TWO, 0);
        fault(ONE + "d0,1,1;" + ONE, 9);
        fault(ONE + "d1,0,1;" + ONE, 9);
        fault(TWO + "d0,2,1;", 18);
        fault(TWO + "d2,0,1;", 18);
        fault(TWO + "d1,0,1;", NONE);
        fault(SEVEN + "d6,0,1;d0,6,1;", NONE);
        fault(SEVEN + "d7,0,1;", 63);
        fault(SEVEN + "d0,7,1;", 63);
        fault(SEVEN + "d0,10,1;", 63);
    }

    @Of(promise = 4, sentence = "D (0 to 60)")
    void debtsAre0To60() {
        fault(TWO + "d0,1,0;", NONE);
        fault(TWO + "d0,1,60;", NONE);
        fault(TWO + "d0,1,61;", 18);
        fault(TWO + "d0,1,99;", 18);
    }

    @Of(promise = 4, sentence = "FAULT: the place (from 0 on) of the first letter of the first ITEM that is not so.")
    void faultIsWhereTheFirstFaultyItemBegins() {
        fault("x", 0);
        fault("p0,1,1,99;x", 0);
        fault("s4;x", 3);
        fault("s4;s0;x", 3);
        fault(ONE + "p0,1,1,99;" + "s0;", 9);
        fault(TWO + "d0,1,61;", 18);
        fault(FULL_TEXT.substring(0, 192) + "s4;s4;s4", 198);
    }

    @Of(promise = 4, sentence = "FAULT. NONE.")
    void anEmptyTextIsWithoutFault() {
        fault("", NONE);
        KerbQueue x = written("x");
        refused(x, "fault() of x", x::fault, 0);
        x.wipe();
        refused(x, "fault() when wiped", x::fault, NONE);
    }

    // ---- lay

    @Of(promise = 5, sentence = "7 at most, 0, 1, .., in the QUEUE in this order, 0 ahead")
    void sevenPersonsAreLaidInOrder() {
        KerbQueue x = written(SEVEN);
        due("lay() of seven", x.lay(), 7);
        line("seven", x, 0, 1, 2, 3, 4, 5, 6);
    }

    @Of(promise = 5, sentence = "(3 without; of several such the last one counts)")
    void servedEachWithoutAndWithSeveral() {
        due("count(1) at first", new KerbQueue().count(1), 4);
        due("count(1) without an s", laid(ONE).count(1), 3);
        due("count(1) with one s", laid("s9;" + ONE).count(1), 9);
        due("count(1), the last one lower", laid("s9;" + ONE + "s1;").count(1), 1);
        due("count(1), the last one higher", laid("s1;s2;s9;" + ONE).count(1), 9);
    }

    @Of(promise = 5, sentence = "(0 without; the last one of both)")
    void debtsWithoutAndWithSeveral() {
        KerbQueue x = laid(ONE.repeat(6));
        for (int a = 0; a < 6; a++) {
            for (int b = 0; b < 6; b++) {
                if (a != b) {
                    due("owes(" + a + ", " + b + ") without a d", x.owes(a, b), 0);
                }
            }
        }
        KerbQueue y = laid(TWO + "d0,1,60;d1,0,4;d0,1,5;");
        due("owes(0, 1), the last one of both", y.owes(0, 1), 5);
        due("owes(1, 0), told once", y.owes(1, 0), 4);
        due("owes(0, 1), the last one 0", laid(TWO + "d0,1,60;d0,1,0;").owes(0, 1), 0);
        due("owes(0, 1), the last one higher", laid(TWO + "d0,1,0;d0,1,60;").owes(0, 1), 60);
    }

    @Of(promise = 5, sentence = "LAID is a TEXT without FAULT, of a PERSON at least (NO else;")
    void layingTakesAPersonAndNoFault() {
        String[] texts = {"", "s4;", "s4;s9;", "x", ONE + "x", ONE + "s4", TWO + "d0,0,1;", SEVEN + ONE};
        for (String text : texts) {
            KerbQueue x = written(text);
            refused(x, "lay() of " + text, x::lay, NO);
        }
        due("lay() of one PERSON", written(ONE).lay(), 1);
        due("lay() of 200 letters", written(FULL_TEXT).lay(), 7);
    }

    @Of(promise = 5, sentence = "LAID: how many PERSONS; nothing SEEN, UNDONE, KEPT; THE TEXT stays. NO.")
    void layingLeavesNothingSeenUndoneKept() {
        KerbQueue x = new KerbQueue();
        for (int i = 1; i <= 8; i++) {
            x.see(0, 1, 0);
            x.keep();
            x.pass(1);
        }
        due("SEEN, UNDONE, KEPT ahead of it", 100 * x.count(7) + 10 * x.count(8) + x.count(9), 682);
        Check.write(x, FULL_TEXT);
        due("lay()", x.lay(), 7);
        due("SEEN", x.count(7), 0);
        due("UNDONE", x.count(8), 0);
        due("KEPT", x.count(9), 0);
        due("MINUTES gone by", x.count(2), 0);
        due("letters of THE TEXT", x.count(10), 200);
        due("undo()", x.undo(), NO);
        due("back()", x.back(), NO);
        due("forget()", x.forget(), 0);
        due("lay() again", x.lay(), 7);
    }

    @Of(promise = 5, sentence = "LAID: how many PERSONS; nothing SEEN, UNDONE, KEPT; THE TEXT stays. NO.")
    void whatIsNotLaidLeavesAllSeenUndoneKept() {
        KerbQueue x = new KerbQueue();
        x.keep();
        x.pass(2);
        x.see(0, 1, 0);
        Check.write(x, ONE + "x");
        refused(x, "lay() of a FAULT", x::lay, NO);
        due("back()", x.back(), 0);
        due("forget()", x.forget(), 1);
    }
}
