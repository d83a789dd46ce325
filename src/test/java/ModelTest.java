import java.util.Random;

/** Many runs of calls, by fixed seeds, each answered by the class as by the model. */
public final class ModelTest {
    private static final Check CHECK = new Check();
    private static final int[] FAR = {Integer.MIN_VALUE, -1000000, -5, -2, -1, 61, 127, 201, 10000, 400001, Integer.MAX_VALUE};

    private final Random draws;
    private final KerbQueue queue = new KerbQueue();
    private final Model model = new Model();
    private final String run;

    private ModelTest(int seed) {
        draws = new Random(seed);
        run = "run " + seed + ": ";
    }

    public static void main(String[] args) {
        int runs = args.length > 0 ? Integer.parseInt(args[0]) : 600;
        for (int seed = 0; seed < runs; seed++) {
            new ModelTest(seed).run();
        }
        CHECK.end();
    }

    // An object is used for 512 calls at most: a text and a look at all may come behind the 300th.
    private void run() {
        int calls = 0;
        if (draws.nextInt(8) > 0) {
            calls += layText();
        }
        while (calls < 300) {
            int turn = draws.nextInt(300);
            if (turn == 0) {
                calls += layText();
            } else if (turn < 3) {
                calls += compareAll();
            } else {
                call();
                calls++;
            }
        }
        compareAll();
    }

    private int below(int n) {
        return draws.nextInt(n);
    }

    /** Mostly from low to high, at times just beyond, at times far off. */
    private int number(int low, int high) {
        int turn = below(40);
        if (turn == 0) {
            return FAR[below(FAR.length)];
        }
        if (turn == 1) {
            return below(2) == 0 ? low - 1 : high + 1;
        }
        return low + below(high - low + 1);
    }

    private int part() {
        return number(0, 1);
    }

    private int someone() {
        return number(0, model.count(0) - 1);
    }

    private int layText() {
        String text = randomText();
        due("wipe()", queue.wipe(), model.wipe());
        for (int i = 0; i < text.length(); i++) {
            due("write(" + text.charAt(i) + ")", queue.write(text.charAt(i)), model.write(text.charAt(i)));
        }
        due("fault() of " + text, queue.fault(), model.fault());
        due("lay() of " + text, queue.lay(), model.lay());
        return text.length() + 3;
    }

    private String randomText() {
        StringBuilder text = new StringBuilder();
        int persons = 1 + below(7);
        int minutes = 1 + below(9);
        for (int p = 0; p < persons; p++) {
            text.append("p").append(below(4)).append(",").append(below(21)).append(",");
            text.append(1 + below(minutes)).append(",").append(below(3) == 0 ? 0 : below(61)).append(";");
            if (below(4) == 0 && p > 0) {
                appendDebt(text, p + 1);
            }
        }
        if (below(4) > 0) {
            text.append("s").append(1 + below(9)).append(";");
        }
        for (int d = below(5); d > 0 && persons > 1; d--) {
            appendDebt(text, persons);
        }
        if (below(4) == 0) {
            spoil(text);
        }
        return text.toString();
    }

    private void appendDebt(StringBuilder text, int persons) {
        int a = below(persons);
        int b = (a + 1 + below(persons - 1)) % persons;
        text.append("d").append(a).append(",").append(b).append(",").append(below(61)).append(";");
    }

    private void spoil(StringBuilder text) {
        String letters = "psd0123456789,; x";
        char letter = letters.charAt(below(letters.length()));
        int at = below(text.length());
        int turn = below(3);
        if (turn == 0) {
            text.setCharAt(at, letter);
        } else if (turn == 1) {
            text.insert(at, letter);
        } else {
            text.deleteCharAt(at);
        }
    }

    private void due(String call, int got, int want) {
        CHECK.due(run + call, got, want);
    }

    private int compareAll() {
        for (int what = 0; what <= 10; what++) {
            due("count(" + what + ")", queue.count(what), model.count(what));
        }
        for (int k = 0; k < 7; k++) {
            due("place(" + k + ")", queue.place(k), model.place(k));
        }
        int calls = 18;
        for (int p = 0; p < model.count(0); p++) {
            for (int what = 3; what < 7; what++) {
                due("person(" + p + ", " + what + ")", queue.person(p, what), model.person(p, what));
                calls++;
            }
        }
        return calls;
    }

    private void call() {
        int turn = below(100);
        if (turn < 45) {
            callOfActs();
        } else if (turn < 65) {
            callOfQueues();
        } else if (turn < 80) {
            callOfWhatComes();
        } else if (turn < 90) {
            callOfWhatWasSeen();
        } else {
            callOfRainAndDays();
        }
    }

    private void callOfQueues() {
        int p = someone();
        int q = someone();
        switch (below(9)) {
            case 0 -> {
                int letter = number(32, 126);
                due("write(" + letter + ")", queue.write(letter), model.write(letter));
            }
            case 1 -> due("fault()", queue.fault(), model.fault());
            case 2 -> {
                int what = number(0, 6);
                due("person(" + p + ", " + what + ")", queue.person(p, what), model.person(p, what));
            }
            case 3, 4 -> due("owes(" + p + ", " + q + ")", queue.owes(p, q), model.owes(p, q));
            case 5 -> {
                int k = number(0, 6);
                due("place(" + k + ")", queue.place(k), model.place(k));
            }
            case 6, 7 -> due("would(" + p + ")", queue.would(p), model.would(p));
            default -> {
                int what = number(0, 10);
                due("count(" + what + ")", queue.count(what), model.count(what));
            }
        }
    }

    private void callOfActs() {
        int p = someone();
        int q = someone();
        switch (below(10)) {
            case 0, 1 -> {
                int n = below(3) == 0 ? number(1, 24) : 1 + below(3);
                due("pass(" + n + ")", queue.pass(n), model.pass(n));
            }
            case 2, 3 -> due("let(" + p + ", " + q + ")", queue.let(p, q), model.let(p, q));
            case 4 -> due("leave(" + p + ")", queue.leave(p), model.leave(p));
            case 5, 6 -> due("come(" + p + ")", queue.come(p), model.come(p));
            case 7, 8 -> due("pay(" + p + ", " + q + ")", queue.pay(p, q), model.pay(p, q));
            default -> due("undo()", queue.undo(), model.undo());
        }
    }

    private void callOfWhatComes() {
        int p = someone();
        int what = part();
        switch (below(6)) {
            case 0 -> {
                int n = number(0, 40);
                due("behind(" + n + ", " + p + ", " + what + ")", queue.behind(n, p, what), model.behind(n, p, what));
            }
            case 1 -> due("served(" + p + ")", queue.served(p), model.served(p));
            case 2 -> {
                int n = number(1, 40);
                due("stand(" + p + ", " + n + ", " + what + ")", queue.stand(p, n, what), model.stand(p, n, what));
            }
            case 3 -> due("haste(" + p + ", " + what + ")", queue.haste(p, what), model.haste(p, what));
            case 4 -> due("clear()", queue.clear(), model.clear());
            default -> due("miss(" + what + ")", queue.miss(what), model.miss(what));
        }
    }

    private void callOfWhatWasSeen() {
        int p = someone();
        switch (below(8)) {
            case 0, 1, 2 -> see(p);
            case 3 -> due("forget()", queue.forget(), model.forget());
            case 4 -> {
                int k = number(-1, 6);
                if (model.count(3) < 6 || below(6) == 0) {
                    due("orders(" + k + ")", queue.orders(k), model.orders(k));
                }
            }
            default -> due("kinds(" + p + ")", queue.kinds(p), model.kinds(p));
        }
    }

    /** Mostly what comes by the order as it stands, so that some orders and kinds fit. */
    private void see(int p) {
        int n = below(3) == 0 ? number(1, 20) : 1 + below(6);
        int v = below(5) == 0 ? number(0, 400000) : model.behind(n, p, 1);
        due("see(" + p + ", " + n + ", " + v + ")", queue.see(p, n, v), model.see(p, n, v));
    }

    private void callOfRainAndDays() {
        int p = someone();
        int what = part();
        switch (below(5)) {
            case 0 -> {
                int n = number(0, 8);
                int x = number(0, 10);
                due("rain(" + p + ", " + n + ", " + x + ", " + what + ")", queue.rain(p, n, x, what), model.rain(p, n, x, what));
            }
            case 1, 2 -> {
                int z = number(0, 9999);
                int n = number(1, 60);
                due("day(" + z + ", " + n + ", " + what + ")", queue.day(z, n, what), model.day(z, n, what));
            }
            case 3 -> due("keep()", queue.keep(), model.keep());
            default -> due("back()", queue.back(), model.back());
        }
    }
}
