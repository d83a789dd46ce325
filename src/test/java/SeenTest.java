/** Promises 22 to 25: see, forget, orders, kinds. */
public final class SeenTest {
    private static final int BAD = KerbQueue.BAD;
    private static final int NO = KerbQueue.NO;
    private static final int FULL = KerbQueue.FULL;
    private static final int NONE = KerbQueue.NONE;
    private static final String TWO = "p0,1,1,0;p0,5,1,3;s9;";
    private static final Check CHECK = new Check();

    public static void main(String[] args) {
        seeing();
        forgetting();
        allOrders();
        ordersByWhatIsSeen();
        firstOrderByWhoIsFirst();
        ordersFromNowOn();
        ordersOfThoseInTheQueue();
        ordersOfNobody();
        kindsByWhatIsSeen();
        kindsOfItAlone();
        kindsWrong();
        nothingChanges();
        CHECK.end();
    }

    private static void seeing() {
        KerbQueue x = new KerbQueue();
        CHECK.due("see(0, 1, 0)", x.see(0, 1, 0), 1);
        CHECK.due("see(5, 20, 400000)", x.see(5, 20, 400000), 2);
        CHECK.due("see(6, 1, 0)", x.see(6, 1, 0), BAD);
        CHECK.due("see(-1, 1, 0)", x.see(-1, 1, 0), BAD);
        CHECK.due("see(0, 0, 0)", x.see(0, 0, 0), BAD);
        CHECK.due("see(0, 21, 0)", x.see(0, 21, 0), BAD);
        CHECK.due("see(0, 1, -1)", x.see(0, 1, -1), BAD);
        CHECK.due("see(0, 1, 400001)", x.see(0, 1, 400001), BAD);
        x.leave(1);
        CHECK.due("see() of one AWAY", x.see(1, 1, 200006), 3);
        CHECK.due("see() of the same again", x.see(1, 1, 200006), 4);
        CHECK.due("see() the fifth", x.see(0, 1, 0), 5);
        CHECK.due("see() the sixth", x.see(0, 1, 0), 6);
        CHECK.due("see() the seventh", x.see(0, 1, 0), FULL);
        CHECK.due("see(0, 21, 0) when full", x.see(0, 21, 0), BAD);
        CHECK.due("count(7)", x.count(7), 6);
    }

    private static void forgetting() {
        KerbQueue x = CHECK.laid(TWO);
        CHECK.due("forget() nothing", x.forget(), 0);
        x.see(0, 1, 1);
        x.see(0, 1, 2);
        CHECK.due("orders(-1) by what cannot be", x.orders(-1), 0);
        CHECK.due("forget()", x.forget(), 2);
        CHECK.due("count(7)", x.count(7), 0);
        CHECK.due("orders(-1) by nothing", x.orders(-1), 2);
        CHECK.due("forget() again", x.forget(), 0);
        CHECK.due("see() behind it", x.see(0, 1, 200004), 1);
        CHECK.due("orders(-1) behind it", x.orders(-1), 1);
    }

    private static void allOrders() {
        KerbQueue x = CHECK.laid("p1,1,1,1;p1,1,1,1;p1,1,1,1;p1,1,1,1;p1,1,1,1;p1,1,1,1;p1,1,1,1;");
        CHECK.due("orders(-1) of 7", x.orders(-1), 5040);
        x.let(0, 6);
        CHECK.due("orders(0) is the lowest", x.orders(0), 0);
        CHECK.due("orders(6) is the highest", x.orders(6), 6);
        CHECK.due("orders(7)", x.orders(7), BAD);
        CHECK.due("orders(-2)", x.orders(-2), BAD);
        x.leave(0);
        CHECK.due("orders(-1) of 6", x.orders(-1), 720);
        CHECK.due("orders(0) of 6", x.orders(0), 1);
        CHECK.due("orders(5) of 6", x.orders(5), 6);
        CHECK.due("orders(6) of 6", x.orders(6), NONE);
    }

    private static void ordersByWhatIsSeen() {
        KerbQueue x = CHECK.laid(TWO);
        x.see(0, 1, 200004);
        CHECK.due("orders(-1), 0 was pushed past", x.orders(-1), 1);
        CHECK.due("orders(0), 0 was pushed past", x.orders(0), 0);
        CHECK.due("orders(1), 0 was pushed past", x.orders(1), 1);
        x.see(1, 20, 199996);
        CHECK.due("orders(-1), 1 did it", x.orders(-1), 1);
        x.see(0, 1, 200000);
        CHECK.due("orders(-1), both cannot be", x.orders(-1), 0);
        CHECK.due("orders(0), both cannot be", x.orders(0), NONE);
        x.forget();
        x.see(0, 1, 200000);
        CHECK.due("orders(-1), 0 was not pushed past", x.orders(-1), 1);
        CHECK.due("orders(0), 0 was not pushed past", x.orders(0), 1);
        CHECK.due("orders(1), 0 was not pushed past", x.orders(1), 0);
        CHECK.due("orders(2) of two", x.orders(2), NONE);
    }

    // 2 is owed 4 in the first minute if 1 is just behind it then, whoever is first.
    private static void firstOrderByWhoIsFirst() {
        KerbQueue x = CHECK.laid("p1,0,1,0;p0,5,1,0;p1,1,1,0;s9;");
        x.let(0, 2);
        x.let(0, 1);
        x.see(2, 1, 200004);
        CHECK.due("orders(-1)", x.orders(-1), 2);
        CHECK.due("orders(0)", x.orders(0), 0);
        CHECK.due("orders(1)", x.orders(1), 2);
        CHECK.due("orders(2)", x.orders(2), 1);
        CHECK.line("nothing changed", x, 2, 1, 0);
    }

    // 1 pushes each 3 minutes: from minute 2 on, the second one is the one it pushes in.
    private static void ordersFromNowOn() {
        KerbQueue x = CHECK.laid("p1,1,9,0;p0,5,3,3;s9;");
        x.see(0, 2, 200004);
        CHECK.due("orders(-1) ahead of minute 1", x.orders(-1), 0);
        x.pass(1);
        CHECK.due("orders(-1) ahead of minute 2", x.orders(-1), 1);
        CHECK.due("orders(0) ahead of minute 2", x.orders(0), 0);
        x.pass(2);
        CHECK.due("what is owed counts, too", x.orders(-1), 2);
    }

    private static void ordersOfThoseInTheQueue() {
        KerbQueue x = CHECK.laid("p0,1,1,0;p0,5,1,3;p1,1,1,0;s9;d2,0,7;");
        x.leave(2);
        x.see(2, 3, 199993);
        CHECK.due("orders(-1), one AWAY is SEEN", x.orders(-1), 2);
        x.see(2, 3, 199994);
        CHECK.due("orders(-1), one AWAY is not so", x.orders(-1), 0);
        x.forget();
        x.leave(0);
        CHECK.due("orders(-1) of one", x.orders(-1), 1);
        CHECK.due("orders(0) of one", x.orders(0), 1);
        CHECK.due("orders(1) of one", x.orders(1), NONE);
    }

    private static void ordersOfNobody() {
        KerbQueue x = CHECK.laid("p0,1,1,0;");
        x.leave(0);
        CHECK.due("orders(-1) of nobody", x.orders(-1), 1);
        CHECK.due("orders(0) of nobody", x.orders(0), NONE);
        x.see(0, 1, 200001);
        CHECK.due("orders(-1) of nobody, not so", x.orders(-1), 0);
    }

    private static void kindsByWhatIsSeen() {
        KerbQueue x = CHECK.laid(TWO);
        CHECK.due("kinds(1) by nothing", x.kinds(1), 15);
        x.see(1, 1, 199996);
        CHECK.due("kinds(1), it pushed: PLAIN, RUDE", x.kinds(1), 5);
        x.see(1, 20, 200000);
        CHECK.due("kinds(1), both cannot be", x.kinds(1), 0);
        x.forget();
        x.see(1, 20, 200000);
        CHECK.due("kinds(1), it did not push: MEEK, SHARP", x.kinds(1), 10);
        KerbQueue y = CHECK.laid("p0,1,1,0;p0,5,1,4;s9;");
        y.see(1, 1, 199996);
        CHECK.due("kinds(1), it pushed and has enough", y.kinds(1), 13);
        KerbQueue z = CHECK.laid("p1,5,1,0;p1,1,1,9;s9;d0,1,3;");
        z.see(1, 1, 200003);
        CHECK.due("kinds(1), a RUDE one owes none for less", z.kinds(1), 15);
        z.see(0, 2, 199997);
        CHECK.due("kinds(0), MEEK 1 stays behind it", z.kinds(0), 15);
    }

    private static void kindsOfItAlone() {
        KerbQueue x = CHECK.laid(TWO);
        x.see(0, 1, 0);
        x.see(1, 1, 199996);
        CHECK.due("kinds(1) by what is SEEN of it", x.kinds(1), 5);
        CHECK.due("kinds(0) by what is SEEN of it", x.kinds(0), 0);
        CHECK.due("orders(-1) by all", x.orders(-1), 0);
    }

    private static void kindsWrong() {
        KerbQueue x = CHECK.laid(TWO);
        CHECK.due("kinds(2)", x.kinds(2), BAD);
        CHECK.due("kinds(-1)", x.kinds(-1), BAD);
        x.leave(0);
        CHECK.due("kinds() of one AWAY", x.kinds(0), NO);
        CHECK.due("kinds(1), alone", x.kinds(1), 15);
    }

    private static void nothingChanges() {
        KerbQueue x = CHECK.laid(TWO);
        x.see(1, 1, 199996);
        x.kinds(1);
        x.orders(-1);
        x.orders(0);
        CHECK.line("as it was", x, 0, 1);
        CHECK.due("person(1, 0) as it was", x.person(1, 0), 0);
        CHECK.due("count(6) as it was", x.count(6), 0);
        CHECK.due("count(2) as it was", x.count(2), 0);
        CHECK.due("would(1) as it was", x.would(1), 1);
    }
}
