/** Boundary cases of what was SEEN, promises 22 to 25. */
final class SeenBounds extends Bounds {

    /** 1 pushes past 0 in the first MINUTE and owes it 4 then. */
    private static final String PUSHED = "p1,1,9,0;p0,5,1,0;s9;";

    // ---- see, forget

    @Of(promise = 22, sentence = "SEEN (6 at most)")
    void sixAtMostAreSeen() {
        KerbQueue x = laid(PUSHED);
        for (int i = 1; i <= 6; i++) {
            due("see() number " + i, x.see(0, 1, 200004), i);
        }
        refused(x, "see() number 7", () -> x.see(0, 1, 0), FULL);
        due("orders(-1), the seventh is not SEEN", x.orders(-1), 1);
        x.forget();
        due("see() when forgotten", x.see(0, 1, 0), 1);
    }

    @Of(promise = 22, sentence = "behind n (1 to 20) MINUTES from when it is asked on (ORDERS, KINDS)")
    void seenBehind1To20Minutes() {
        KerbQueue x = laid(MEEK.repeat(6) + "p0,5,9,0;s9;");
        refused(x, "see(6, 0, 199988)", () -> x.see(6, 0, 199988), BAD);
        refused(x, "see(6, 21, 199988)", () -> x.see(6, 21, 199988), BAD);
        refused(x, "see(6, -1, 199988)", () -> x.see(6, -1, 199988), BAD);
        due("see(6, 20, 199988), three pushes", x.see(6, 20, 199988), 1);
        x.pass(6);
        due("kinds(6), by MINUTE 26", x.kinds(6), 0);
        x.pass(1);
        due("kinds(6), by MINUTE 27, a time of T", x.kinds(6), 5);
        x.forget();
        due("see(6, 1, 199996), one push", x.see(6, 1, 199996), 1);
        due("orders(-1), by MINUTE 8", x.orders(-1), 0);
        x.pass(1);
        due("orders(-1), by MINUTE 9, 6 not being the first", x.orders(-1), 4320);
    }

    @Of(promise = 22, sentence = "would be v (0 to 400000)")
    void seenFrom0To400000() {
        KerbQueue x = laid(PUSHED);
        refused(x, "see(0, 1, -1)", () -> x.see(0, 1, -1), BAD);
        refused(x, "see(0, 1, 400001)", () -> x.see(0, 1, 400001), BAD);
        due("see(0, 1, 0)", x.see(0, 1, 0), 1);
        due("see(0, 1, 400000)", x.see(0, 1, 400000), 2);
        due("orders(-1) by those", x.orders(-1), 0);
    }

    @Of(promise = 22, sentence = "SEEN: how many. BAD; FULL.")
    void seeingWhenFull() {
        KerbQueue x = laid(MEEK_THREE);
        refused(x, "see(3, 1, 0)", () -> x.see(3, 1, 0), BAD);
        refused(x, "see(-1, 1, 0)", () -> x.see(-1, 1, 0), BAD);
        x.leave(2);
        due("see() of one AWAY", x.see(2, 1, 0), 1);
        for (int i = 2; i <= 6; i++) {
            due("see() number " + i, x.see(0, 1, 0), i);
        }
        refused(x, "see(0, 21, 0) when full", () -> x.see(0, 21, 0), BAD);
        refused(x, "see(0, 20, 0) when full", () -> x.see(0, 20, 0), FULL);
    }

    @Of(promise = 23, sentence = "Nothing is SEEN: how many were.")
    void forgettingNothingAndAll() {
        KerbQueue x = laid(PUSHED);
        refused(x, "forget() nothing", x::forget, 0);
        x.see(0, 1, 0);
        due("forget() one", x.forget(), 1);
        for (int i = 0; i < 7; i++) {
            x.see(0, 1, 0);
        }
        due("forget() all", x.forget(), 6);
        due("orders(-1), nothing SEEN", x.orders(-1), 2);
        due("forget() again", x.forget(), 0);
    }

    // ---- orders

    @Of(promise = 24, sentence = "ORDERS of those who are in the QUEUE now, by which all that is SEEN would be so: how many")
    void ordersFromNoneToAll() {
        due("orders(-1) of one", laid(MEEK).orders(-1), 1);
        due("orders(-1) of seven", laid(MEEK_SEVEN).orders(-1), 5040);
        KerbQueue x = laid(PUSHED);
        due("orders(-1), nothing SEEN", x.orders(-1), 2);
        x.see(0, 1, 200004);
        due("orders(-1), one so", x.orders(-1), 1);
        x.see(0, 1, 200003);
        due("orders(-1), all cannot be so", x.orders(-1), 0);
        KerbQueue away = laid(MEEK_THREE);
        away.leave(0);
        due("orders(-1) of those in the QUEUE", away.orders(-1), 2);
        due("orders(0) of those in the QUEUE", away.orders(0), 1);
        due("orders(1) of those in the QUEUE", away.orders(1), 2);
        KerbQueue nobody = laid(PUSHED);
        nobody.leave(0);
        nobody.leave(1);
        due("orders(-1) of nobody, nothing SEEN", nobody.orders(-1), 1);
        nobody.see(0, 1, 200004);
        due("orders(-1) of nobody, not so", nobody.orders(-1), 0);
    }

    @Of(promise = 24, sentence = "who is at the k-th place in the first (by who is first, the lowest ahead, then second, ..); none.")
    void theFirstOfTheOrders() {
        KerbQueue x = laid(MEEK_SEVEN);
        for (int p = 5; p >= 0; p--) {
            x.let(0, p + 1);
        }
        line("6 stands ahead", x, 6, 5, 4, 3, 2, 1, 0);
        for (int k = 0; k < 7; k++) {
            due("orders(" + k + ") of seven", x.orders(k), k);
        }
        KerbQueue y = laid("p1,1,9,0;p1,1,9,0;p0,5,1,0;s9;");
        y.see(0, 1, 200004);
        due("orders(-1), 2 just behind 0", y.orders(-1), 2);
        due("orders(0)", y.orders(0), 0);
        due("orders(1), then second", y.orders(1), 2);
        due("orders(2)", y.orders(2), 1);
        y.see(2, 1, 200000);
        refused(y, "orders(0), none is so", () -> y.orders(0), NONE);
        refused(y, "orders(2), none is so", () -> y.orders(2), NONE);
    }

    @Of(promise = 24, sentence = "ORDERS: how many (k = -1), the k-th of the first (0 to 6; NONE: there is none). BAD.")
    void ordersAskedFor() {
        KerbQueue x = laid(MEEK_THREE);
        refused(x, "orders(-2)", () -> x.orders(-2), BAD);
        refused(x, "orders(7)", () -> x.orders(7), BAD);
        due("orders(-1)", x.orders(-1), 6);
        due("orders(2)", x.orders(2), 2);
        refused(x, "orders(3) of three", () -> x.orders(3), NONE);
        refused(x, "orders(6) of three", () -> x.orders(6), NONE);
        x.leave(2);
        refused(x, "orders(2) of two", () -> x.orders(2), NONE);
        x.leave(0);
        x.leave(1);
        refused(x, "orders(0) of nobody", () -> x.orders(0), NONE);
        due("orders(6) of seven", laid(MEEK_SEVEN).orders(6), 6);
    }

    // ---- kinds

    private void kinds(String text, int p, int n, int v, int bits) {
        KerbQueue x = laid(text);
        x.see(p, n, v);
        due("kinds(" + p + "), DUE being " + v + " behind " + n, x.kinds(p), bits);
    }

    @Of(promise = 25, sentence = "KINDS of one that is in the QUEUE (bits of 0 to 3), in place of its own")
    void kindsByBits() {
        due("kinds(0), nothing SEEN", laid(PUSHED).kinds(0), 15);
        String between = "p1,1,9,0;p1,5,1,0;p0,9,2,0;s9;";
        kinds(between, 1, 6, 200000, 1);
        kinds("p1,1,9,0;p0,5,1,4;p0,9,2,0;s9;", 1, 5, 200004, 2);
        kinds("p1,1,9,0;p0,5,1,4;p0,9,2,0;s9;", 1, 8, 200008, 4);
        kinds("p1,1,9,0;p1,2,9,0;p0,5,1,3;s9;", 2, 2, 199997, 8);
        kinds(PUSHED, 1, 1, 199996, 5);
        kinds(PUSHED, 1, 1, 200000, 10);
        kinds(PUSHED, 1, 1, 199999, 0);
    }

    @Of(promise = 25, sentence = "by which all that is SEEN of it would be so.")
    void kindsByWhatIsSeenOfItAlone() {
        KerbQueue x = laid(PUSHED);
        x.see(0, 1, 0);
        due("kinds(1), nothing SEEN of it", x.kinds(1), 15);
        due("kinds(0)", x.kinds(0), 0);
        x.see(1, 1, 199996);
        x.see(1, 20, 199996);
        due("kinds(1), two SEEN of it", x.kinds(1), 5);
        x.see(1, 2, 0);
        due("kinds(1), a third not so", x.kinds(1), 0);
        due("person(1, 0) is its own", x.person(1, 0), 0);
    }

    @Of(promise = 25, sentence = "KINDS, as bits. BAD; NO: it is not in the QUEUE.")
    void kindsOfThoseOutOfTheQueue() {
        KerbQueue x = laid(MEEK_THREE + "s1;");
        x.pass(1);
        x.leave(1);
        refused(x, "kinds() of one SERVED", () -> x.kinds(0), NO);
        refused(x, "kinds() of one AWAY", () -> x.kinds(1), NO);
        refused(x, "kinds(3)", () -> x.kinds(3), BAD);
        refused(x, "kinds(-1)", () -> x.kinds(-1), BAD);
        due("kinds() of one alone", x.kinds(2), 15);
    }
}
