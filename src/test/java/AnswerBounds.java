/** The line of the document that binds every promise: what BAD, NO, NONE and FULL are, and which is first. */
final class AnswerBounds extends Bounds {
    private static final String TOLD = "BAD: a number is none that is told (PERSONS: such as there are).";
    private static final String FIRST = "Of several the first in this order, whatever the order at a call";
    private static final String UNCHANGED = "nothing changes then.";

    private interface Call {
        int answer(KerbQueue queue, int[] numbers);
    }

    /** Three PERSONS of whom 0 owes 2 and 1 owes 0, with something SEEN, UNDONE, KEPT and written. */
    private KerbQueue three() {
        KerbQueue x = laid("p1,1,9,9;p0,5,9,9;p1,1,9,9;s9;d0,2,5;d1,0,3;");
        x.pass(1);
        x.keep();
        x.see(0, 1, 199998);
        return x;
    }

    /**
     * Each number in turn is the least and the greatest that is told, one beyond, and far beyond, the others as
     * given; bounds are the least and the greatest of each number, one behind the other.
     */
    private void told(String name, Call call, int[] numbers, int... bounds) {
        for (int i = 0; i < numbers.length; i++) {
            int low = bounds[2 * i];
            int high = bounds[2 * i + 1];
            for (int number : new int[] {low, high}) {
                int[] with = with(numbers, i, number);
                due(text(name, with) + " is told", call.answer(three(), with) == BAD ? 1 : 0, 0);
            }
            for (int number : new int[] {low - 1, high + 1, LEAST, LEAST + 1, MOST - 1, MOST, high + 1000, low - 1000}) {
                int[] with = with(numbers, i, number);
                KerbQueue x = three();
                refused(x, text(name, with), () -> call.answer(x, with), BAD);
            }
        }
    }

    private static int[] with(int[] numbers, int i, int number) {
        int[] changed = numbers.clone();
        changed[i] = number;
        return changed;
    }

    private static String text(String name, int[] numbers) {
        StringBuilder text = new StringBuilder(name).append('(');
        for (int i = 0; i < numbers.length; i++) {
            text.append(i == 0 ? "" : ", ").append(numbers[i]);
        }
        return text.append(')').toString();
    }

    private static int[] numbers(int... numbers) {
        return numbers;
    }

    // ---- BAD: a number is none that is told

    @Of(promise = 2, sentence = TOLD)
    void toldToWrite() {
        told("write", (x, a) -> x.write(a[0]), numbers(65), 32, 126);
    }

    @Of(promise = 6, sentence = TOLD)
    void toldToPerson() {
        told("person", (x, a) -> x.person(a[0], a[1]), numbers(1, 1), 0, 2, 0, 6);
    }

    @Of(promise = 7, sentence = TOLD)
    void toldToOwes() {
        told("owes", (x, a) -> x.owes(a[0], a[1]), numbers(1, 1), 0, 2, 0, 2);
    }

    @Of(promise = 8, sentence = TOLD)
    void toldToPlace() {
        told("place", (x, a) -> x.place(a[0]), numbers(1), 0, 6);
    }

    @Of(promise = 9, sentence = TOLD)
    void toldToWould() {
        told("would", (x, a) -> x.would(a[0]), numbers(1), 0, 2);
    }

    @Of(promise = 10, sentence = TOLD)
    void toldToPass() {
        told("pass", (x, a) -> x.pass(a[0]), numbers(1), 1, 24);
    }

    @Of(promise = 11, sentence = TOLD)
    void toldToLet() {
        told("let", (x, a) -> x.let(a[0], a[1]), numbers(1, 1), 0, 2, 0, 2);
    }

    @Of(promise = 12, sentence = TOLD)
    void toldToLeave() {
        told("leave", (x, a) -> x.leave(a[0]), numbers(1), 0, 2);
    }

    @Of(promise = 13, sentence = TOLD)
    void toldToCome() {
        told("come", (x, a) -> x.come(a[0]), numbers(1), 0, 2);
    }

    @Of(promise = 14, sentence = TOLD)
    void toldToPay() {
        told("pay", (x, a) -> x.pay(a[0], a[1]), numbers(1, 1), 0, 2, 0, 2);
    }

    @Of(promise = 16, sentence = TOLD)
    void toldToBehind() {
        told("behind", (x, a) -> x.behind(a[0], a[1], a[2]), numbers(5, 1, 0), 0, 40, 0, 2, 0, 1);
    }

    @Of(promise = 17, sentence = TOLD)
    void toldToServed() {
        told("served", (x, a) -> x.served(a[0]), numbers(1), 0, 2);
    }

    @Of(promise = 18, sentence = TOLD)
    void toldToStand() {
        told("stand", (x, a) -> x.stand(a[0], a[1], a[2]), numbers(1, 30, 0), 0, 2, 1, 40, 0, 1);
    }

    @Of(promise = 19, sentence = TOLD)
    void toldToHaste() {
        told("haste", (x, a) -> x.haste(a[0], a[1]), numbers(1, 0), 0, 2, 0, 1);
    }

    @Of(promise = 21, sentence = TOLD)
    void toldToMiss() {
        told("miss", (x, a) -> x.miss(a[0]), numbers(0), 0, 1);
    }

    @Of(promise = 22, sentence = TOLD)
    void toldToSee() {
        told("see", (x, a) -> x.see(a[0], a[1], a[2]), numbers(1, 5, 200000), 0, 2, 1, 20, 0, 400000);
    }

    @Of(promise = 24, sentence = TOLD)
    void toldToOrders() {
        told("orders", (x, a) -> x.orders(a[0]), numbers(0), -1, 6);
    }

    @Of(promise = 25, sentence = TOLD)
    void toldToKinds() {
        told("kinds", (x, a) -> x.kinds(a[0]), numbers(1), 0, 2);
    }

    @Of(promise = 26, sentence = TOLD)
    void toldToRain() {
        told("rain", (x, a) -> x.rain(a[0], a[1], a[2], a[3]), numbers(1, 3, 3, 0), 0, 2, 0, 8, 0, 10, 0, 1);
    }

    @Of(promise = 27, sentence = TOLD)
    void toldToDay() {
        told("day", (x, a) -> x.day(a[0], a[1], a[2]), numbers(5, 5, 0), 0, 9999, 1, 60, 0, 1);
    }

    @Of(promise = 30, sentence = TOLD)
    void toldToCount() {
        told("count", (x, a) -> x.count(a[0]), numbers(0), 0, 10);
    }

    @Of(promise = 5, sentence = "(PERSONS: such as there are)")
    void layingFewerLeavesFewerPersons() {
        KerbQueue x = new KerbQueue();
        due("person(5, 0) of six", x.person(5, 0), 2);
        due("person(6, 0) of six", x.person(6, 0), BAD);
        Check.write(x, MEEK.repeat(7));
        x.lay();
        due("person(6, 0) of seven", x.person(6, 0), 1);
        due("person(7, 0) of seven", x.person(7, 0), BAD);
        x.wipe();
        Check.write(x, MEEK);
        x.lay();
        due("person(0, 0) of one", x.person(0, 0), 1);
        for (int p = 1; p <= 7; p += 3) {
            int one = p;
            refused(x, "person(" + p + ", 0) of one", () -> x.person(one, 0), BAD);
            refused(x, "owes(0, " + p + ") of one", () -> x.owes(0, one), BAD);
        }
    }

    // ---- NO, NONE, FULL: the same call by turns

    @Of(promise = 15, sentence = "NO: not as things stand.")
    void noAsThingsStandAndElseNot() {
        KerbQueue x = laid(MEEK_THREE);
        due("undo() at first", x.undo(), -2);
        due("leave(0)", x.leave(0), 2);
        due("leave(0) by one AWAY", x.leave(0), -2);
        due("undo() of it", x.undo(), 0);
        due("undo() again", x.undo(), -2);
        due("leave(0) when undone", x.leave(0), 2);
    }

    @Of(promise = 8, sentence = "NONE: there is none.")
    void noneWhileThereIsNone() {
        KerbQueue x = laid(MEEK);
        due("place(0)", x.place(0), 0);
        x.leave(0);
        due("place(0) of nobody", x.place(0), -4);
        x.come(0);
        due("place(0) of one come back", x.place(0), 0);
    }

    @Of(promise = 28, sentence = "FULL. Of several the first in this order")
    void fullWhileThereIsNoRoom() {
        KerbQueue x = laid(MEEK);
        x.keep();
        due("keep() with room", x.keep(), 2);
        due("keep() without room", x.keep(), -3);
        x.back();
        due("keep() with room again", x.keep(), 2);
    }

    // ---- of several the first in this order: BAD, NO, NONE, FULL

    @Of(promise = 2, sentence = FIRST)
    void badAheadOfFullByWrite() {
        KerbQueue x = written(" ".repeat(200));
        refused(x, "write(31), full", () -> x.write(31), BAD);
        refused(x, "write(32), full", () -> x.write(32), FULL);
    }

    @Of(promise = 8, sentence = FIRST)
    void badAheadOfNoneByPlace() {
        KerbQueue x = laid(MEEK);
        refused(x, "place(7), nobody there", () -> x.place(7), BAD);
        refused(x, "place(6), nobody there", () -> x.place(6), NONE);
    }

    @Of(promise = 10, sentence = FIRST)
    void badAheadOfNoByPass() {
        KerbQueue x = laid(MEEK);
        passTo(x, 999);
        refused(x, "pass(25), beyond 999", () -> x.pass(25), BAD);
        refused(x, "pass(most), beyond 999", () -> x.pass(MOST), BAD);
        refused(x, "pass(24), beyond 999", () -> x.pass(24), NO);
    }

    @Of(promise = 11, sentence = FIRST)
    void badAheadOfNoByLet() {
        KerbQueue x = laid(MEEK_THREE);
        x.leave(1);
        refused(x, "let(1, 1), AWAY", () -> x.let(1, 1), BAD);
        refused(x, "let(1, 3), by one AWAY", () -> x.let(1, 3), BAD);
        refused(x, "let(3, 1), of one AWAY", () -> x.let(3, 1), BAD);
        refused(x, "let(1, 2), by one AWAY", () -> x.let(1, 2), NO);
    }

    @Of(promise = 14, sentence = FIRST)
    void badAheadOfNoByPay() {
        KerbQueue x = laid(MEEK_THREE);
        refused(x, "pay(0, 0), owing nothing", () -> x.pay(0, 0), BAD);
        refused(x, "pay(0, 3), having nothing", () -> x.pay(0, 3), BAD);
        refused(x, "pay(0, 1), owing and having nothing", () -> x.pay(0, 1), NO);
    }

    @Of(promise = 16, sentence = FIRST)
    void badAheadOfNoneByBehind() {
        KerbQueue x = laid(MEEK_THREE);
        x.leave(0);
        refused(x, "behind(41, 0, 0), AWAY", () -> x.behind(41, 0, 0), BAD);
        refused(x, "behind(0, 0, 2), AWAY", () -> x.behind(0, 0, 2), BAD);
        refused(x, "behind(0, 0, 0), AWAY", () -> x.behind(0, 0, 0), NONE);
    }

    @Of(promise = 17, sentence = FIRST)
    void noAheadOfNoneByServed() {
        KerbQueue x = laid(MEEK_SEVEN);
        refused(x, "served(6), not in 60 MINUTES", () -> x.served(6), NONE);
        x.leave(6);
        refused(x, "served(6), AWAY and not in 60 MINUTES", () -> x.served(6), NO);
        refused(x, "served(7)", () -> x.served(7), BAD);
    }

    @Of(promise = 18, sentence = FIRST)
    void badAheadOfNoAheadOfNoneByStand() {
        KerbQueue x = laid(MEEK_THREE);
        refused(x, "stand(0, 1, 0), by no place", () -> x.stand(0, 1, 0), NONE);
        refused(x, "stand(0, 1, 2), by no place", () -> x.stand(0, 1, 2), BAD);
        x.leave(0);
        refused(x, "stand(0, 1, 0), AWAY, by no place", () -> x.stand(0, 1, 0), NO);
        refused(x, "stand(0, 1, 2), AWAY, by no place", () -> x.stand(0, 1, 2), BAD);
        refused(x, "stand(0, 0, 0), AWAY", () -> x.stand(0, 0, 0), BAD);
        refused(x, "stand(0, 41, 0), AWAY", () -> x.stand(0, 41, 0), BAD);
    }

    @Of(promise = 19, sentence = FIRST)
    void badAheadOfNoAheadOfNoneByHaste() {
        KerbQueue x = laid("p1,0,9,0;" + "p2,1,1,0;".repeat(6) + "s9;");
        refused(x, "haste(0, 0), not in 60 MINUTES", () -> x.haste(0, 0), NONE);
        refused(x, "haste(0, 2), not in 60 MINUTES", () -> x.haste(0, 2), BAD);
        x.leave(0);
        refused(x, "haste(0, 1), AWAY", () -> x.haste(0, 1), NO);
        refused(x, "haste(0, 2), AWAY", () -> x.haste(0, 2), BAD);
    }

    @Of(promise = 21, sentence = FIRST)
    void badAheadOfNoneByMiss() {
        KerbQueue x = laid(MEEK);
        x.leave(0);
        refused(x, "miss(2), nobody", () -> x.miss(2), BAD);
        refused(x, "miss(-1), nobody", () -> x.miss(-1), BAD);
        refused(x, "miss(1), nobody", () -> x.miss(1), NONE);
    }

    @Of(promise = 22, sentence = FIRST)
    void badAheadOfFullBySee() {
        KerbQueue x = laid(MEEK_THREE);
        for (int i = 0; i < 6; i++) {
            x.see(0, 1, 0);
        }
        refused(x, "see(3, 1, 0), full", () -> x.see(3, 1, 0), BAD);
        refused(x, "see(0, 0, 0), full", () -> x.see(0, 0, 0), BAD);
        refused(x, "see(0, 1, 400001), full", () -> x.see(0, 1, 400001), BAD);
        refused(x, "see(0, 1, 400000), full", () -> x.see(0, 1, 400000), FULL);
    }

    @Of(promise = 24, sentence = FIRST)
    void badAheadOfNoneByOrders() {
        KerbQueue x = laid(MEEK);
        x.see(0, 1, 0);
        refused(x, "orders(7), none is so", () -> x.orders(7), BAD);
        refused(x, "orders(-2), none is so", () -> x.orders(-2), BAD);
        refused(x, "orders(0), none is so", () -> x.orders(0), NONE);
        refused(x, "orders(-1), none is so", () -> x.orders(-1), 0);
    }

    // ---- nothing changes then

    @Of(promise = 2, sentence = UNCHANGED)
    void refusedLettersAreNotWritten() {
        KerbQueue x = written("s4;".repeat(66) + "p0");
        due("write('x'), full", x.write('x'), FULL);
        due("write(31), full", x.write(31), BAD);
        due("fault() is where it was", x.fault(), 198);
        due("wipe()", x.wipe(), 200);
    }

    @Of(promise = 5, sentence = UNCHANGED)
    void whatIsNotLaidChangesNothing() {
        KerbQueue x = three();
        x.wipe();
        Check.write(x, "p3,9,9,9;".repeat(7) + "s1;d0,1,9;d0,0,1;");
        refused(x, "lay() of a FAULT", x::lay, NO);
        due("orders(-1) by what is SEEN", x.orders(-1), 6);
        due("undo()", x.undo(), 0);
        due("back()", x.back(), 0);
    }

    @Of(promise = 11, sentence = UNCHANGED)
    void refusedActsAreNotUndone() {
        KerbQueue x = three();
        refused(x, "let(2, 0)", () -> x.let(2, 0), NO);
        refused(x, "come(0)", () -> x.come(0), NO);
        refused(x, "pay(2, 0)", () -> x.pay(2, 0), NO);
        refused(x, "leave(3)", () -> x.leave(3), BAD);
        refused(x, "pass(25)", () -> x.pass(25), BAD);
        due("undo() of the MINUTE that went by", x.undo(), 0);
        due("count(2)", x.count(2), 0);
        refused(x, "undo()", x::undo, NO);
    }

    @Of(promise = 22, sentence = UNCHANGED)
    void whatIsRefusedIsNotSeen() {
        KerbQueue x = laid(MEEK_THREE);
        x.see(0, 0, 0);
        x.see(0, 1, 400001);
        x.see(3, 1, 0);
        due("orders(-1), nothing SEEN", x.orders(-1), 6);
        for (int i = 0; i < 6; i++) {
            x.see(0, 1, 200000);
        }
        due("see(0, 1, 0), full", x.see(0, 1, 0), FULL);
        due("orders(-1), as SEEN ahead of it", x.orders(-1), 6);
        due("kinds(0), as SEEN ahead of it", x.kinds(0), 15);
    }

    @Of(promise = 28, sentence = UNCHANGED)
    void whatIsRefusedIsNotKept() {
        KerbQueue x = laid(MEEK_THREE);
        x.keep();
        x.pass(1);
        x.keep();
        x.pass(1);
        due("keep(), full", x.keep(), FULL);
        due("count(8) stays", x.count(8), 2);
        x.back();
        due("count(2), as KEPT second", x.count(2), 1);
        x.back();
        due("count(2), as KEPT first", x.count(2), 0);
    }

    @Of(promise = 29, sentence = UNCHANGED)
    void goingBackToNothingUndoesNothing() {
        KerbQueue x = laid(MEEK_THREE);
        x.pass(3);
        refused(x, "back()", x::back, NO);
        due("undo()", x.undo(), 0);
        due("count(2)", x.count(2), 0);
    }

    @Of(promise = 18, sentence = UNCHANGED)
    void askingChangesNothing() {
        KerbQueue x = three();
        refused(x, "behind(40, 0, 0)", () -> x.behind(40, 0, 0), NONE);
        refused(x, "served(0)", () -> x.served(0), 17);
        refused(x, "stand(0, 7, 0)", () -> x.stand(0, 7, 0), NONE);
        refused(x, "haste(0, 0)", () -> x.haste(0, 0), 12);
        refused(x, "miss(2)", () -> x.miss(2), BAD);
    }
}
