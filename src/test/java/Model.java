import java.math.BigInteger;
import java.util.ArrayList;
import java.util.HashMap;
import java.util.List;
import java.util.Map;
import java.util.regex.Matcher;
import java.util.regex.Pattern;

/** The document once more, written as plainly as can be: slow, with the whole library at hand. */
final class Model {
    private static final int BAD = -1;
    private static final int NO = -2;
    private static final int FULL = -3;
    private static final int NONE = -4;
    private static final Pattern ITEM = Pattern.compile("([psd])(\\d\\d?(?:,\\d\\d?)*);");

    private record Person(int kind, int worth, int each, int money) { }

    private static final class State {
        int minute = 1;
        List<Integer> queue = new ArrayList<>();
        List<Integer> served = new ArrayList<>();
        Map<Integer, Integer> money = new HashMap<>();
        Map<String, Integer> debts = new HashMap<>();

        State copy() {
            State other = new State();
            other.minute = minute;
            other.queue.addAll(queue);
            other.served.addAll(served);
            other.money.putAll(money);
            other.debts.putAll(debts);
            return other;
        }

        int owed(int a, int b) {
            return debts.getOrDefault(a + ">" + b, 0);
        }

        void owe(int a, int b, int more) {
            debts.merge(a + ">" + b, more, Integer::sum);
        }
    }

    private List<Person> persons = new ArrayList<>();
    private int each;
    private State state = new State();
    private final List<State> undone = new ArrayList<>();
    private final List<State> kept = new ArrayList<>();
    private final List<int[]> seen = new ArrayList<>();
    private String text = "";

    private List<Person> toldPersons;
    private int toldEach;
    private Map<String, Integer> toldDebts;

    Model() {
        text = "p0,5,3,20;p1,9,2,4;p2,7,2,30;p3,12,4,15;p0,3,1,9;p2,15,5,60;s4;d5,1,6;d2,0,3;";
        lay();
        text = "";
    }

    int write(int letter) {
        if (letter < 32 || letter > 126) {
            return BAD;
        }
        if (text.length() == 200) {
            return FULL;
        }
        text += (char) letter;
        return text.length();
    }

    int wipe() {
        int length = text.length();
        text = "";
        return length;
    }

    int fault() {
        toldPersons = new ArrayList<>();
        toldEach = 3;
        toldDebts = new HashMap<>();
        Matcher matcher = ITEM.matcher(text);
        int at = 0;
        while (at < text.length()) {
            matcher.region(at, text.length());
            if (!matcher.lookingAt() || !isTold(matcher.group(1), matcher.group(2).split(","))) {
                return at;
            }
            at = matcher.end();
        }
        return NONE;
    }

    private boolean isTold(String letter, String[] figures) {
        int[] n = new int[figures.length];
        for (int i = 0; i < n.length; i++) {
            n[i] = Integer.parseInt(figures[i]);
        }
        if (letter.equals("p")) {
            if (n.length != 4 || n[0] > 3 || n[1] > 20 || n[2] == 0 || n[2] > 9 || n[3] > 60 || toldPersons.size() == 7) {
                return false;
            }
            toldPersons.add(new Person(n[0], n[1], n[2], n[3]));
            return true;
        }
        if (letter.equals("s")) {
            if (n.length != 1 || n[0] == 0 || n[0] > 9) {
                return false;
            }
            toldEach = n[0];
            return true;
        }
        int told = toldPersons.size();
        if (n.length != 3 || n[0] >= told || n[1] >= told || n[0] == n[1] || n[2] > 60) {
            return false;
        }
        toldDebts.put(n[0] + ">" + n[1], n[2]);
        return true;
    }

    int lay() {
        if (fault() != NONE || toldPersons.isEmpty()) {
            return NO;
        }
        persons = toldPersons;
        each = toldEach;
        state = new State();
        state.debts.putAll(toldDebts);
        for (int p = 0; p < persons.size(); p++) {
            state.queue.add(p);
            state.money.put(p, persons.get(p).money());
        }
        undone.clear();
        kept.clear();
        seen.clear();
        return persons.size();
    }

    private boolean none(int p) {
        return p < 0 || p >= persons.size();
    }

    private int due(State at, int p) {
        int due = 0;
        for (int q = 0; q < persons.size(); q++) {
            due += at.owed(q, p);
            due -= at.owed(p, q);
        }
        return due;
    }

    private static int placeIn(State at, int p) {
        int place = at.queue.indexOf(p);
        return place < 0 ? NONE : place;
    }

    int person(int p, int what) {
        if (none(p) || what < 0 || what > 6) {
            return BAD;
        }
        Person one = persons.get(p);
        int where = state.queue.contains(p) ? 0 : state.served.contains(p) ? 1 : 2;
        int[] all = {one.kind(), one.worth(), one.each(), state.money.get(p), placeIn(state, p), where, due(state, p) + 200000};
        return all[what];
    }

    int owes(int a, int b) {
        return none(a) || none(b) || a == b ? BAD : state.owed(a, b);
    }

    int place(int k) {
        if (k < 0 || k > 6) {
            return BAD;
        }
        return k < state.queue.size() ? state.queue.get(k) : NONE;
    }

    private boolean wants(State at, List<Person> by, int p, int other) {
        Person one = by.get(p);
        int more = one.worth() - by.get(other).worth();
        boolean plain = more > 0;
        return one.kind() == 0 && plain || one.kind() == 2 || one.kind() == 3 && plain && at.money.get(p) >= more;
    }

    int would(int p) {
        if (none(p)) {
            return BAD;
        }
        int place = state.queue.indexOf(p);
        if (place <= 0) {
            return NO;
        }
        return wants(state, persons, p, state.queue.get(place - 1)) ? 1 : 0;
    }

    private void minute(State at, List<Person> by, boolean rain) {
        if (!rain) {
            List<Integer> ahead = new ArrayList<>(at.queue);
            for (int p : ahead.subList(Math.min(1, ahead.size()), ahead.size())) {
                int place = at.queue.indexOf(p);
                if (at.minute % by.get(p).each() == 0 && place > 0 && wants(at, by, p, at.queue.get(place - 1))) {
                    int other = at.queue.get(place - 1);
                    at.owe(p, other, Math.max(by.get(p).worth() - by.get(other).worth(), 0));
                    at.queue.remove(place);
                    at.queue.add(place - 1, p);
                }
            }
        }
        if (at.minute % each == 0 && !at.queue.isEmpty()) {
            at.served.add(at.queue.remove(0));
        }
        at.minute++;
    }

    private State later(State from, List<Person> by, int n) {
        State at = from.copy();
        for (int i = 0; i < n; i++) {
            minute(at, by, false);
        }
        return at;
    }

    private void remember() {
        undone.add(state.copy());
        if (undone.size() > 8) {
            undone.remove(0);
        }
    }

    int pass(int n) {
        if (n < 1 || n > 24) {
            return BAD;
        }
        if (state.minute - 1 + n > 999) {
            return NO;
        }
        remember();
        state = later(state, persons, n);
        return state.minute - 1;
    }

    private static boolean lets(State at, int p, int q) {
        return at.queue.contains(p) && at.queue.contains(q) && at.queue.indexOf(q) > at.queue.indexOf(p);
    }

    private static void doLet(State at, int p, int q) {
        at.queue.remove(Integer.valueOf(q));
        at.queue.add(at.queue.indexOf(p), q);
    }

    int let(int p, int q) {
        if (none(p) || none(q) || p == q) {
            return BAD;
        }
        if (!lets(state, p, q)) {
            return NO;
        }
        remember();
        doLet(state, p, q);
        return state.queue.indexOf(q);
    }

    int leave(int p) {
        if (none(p)) {
            return BAD;
        }
        if (!state.queue.contains(p)) {
            return NO;
        }
        remember();
        state.queue.remove(Integer.valueOf(p));
        return state.queue.size();
    }

    private static void doCome(State at, int p) {
        at.served.remove(Integer.valueOf(p));
        at.queue.add(p);
    }

    int come(int p) {
        if (none(p)) {
            return BAD;
        }
        if (state.queue.contains(p)) {
            return NO;
        }
        remember();
        doCome(state, p);
        return state.queue.indexOf(p);
    }

    private static int doPay(State at, int a, int b) {
        int sum = Math.min(at.owed(a, b), at.money.get(a));
        at.owe(a, b, -sum);
        at.money.merge(a, -sum, Integer::sum);
        at.money.merge(b, sum, Integer::sum);
        return sum;
    }

    int pay(int a, int b) {
        if (none(a) || none(b) || a == b) {
            return BAD;
        }
        if (state.owed(a, b) == 0 || state.money.get(a) == 0) {
            return NO;
        }
        remember();
        return doPay(state, a, b);
    }

    int undo() {
        if (undone.isEmpty()) {
            return NO;
        }
        state = undone.remove(undone.size() - 1);
        return undone.size();
    }

    int behind(int n, int p, int what) {
        if (n < 0 || n > 40 || none(p) || what < 0 || what > 1) {
            return BAD;
        }
        State then = later(state, persons, n);
        return what == 0 ? placeIn(then, p) : due(then, p) + 200000;
    }

    private int wait(State from, int p) {
        for (int n = 1; n <= 60; n++) {
            if (later(from, persons, n).served.contains(p)) {
                return n;
            }
        }
        return NONE;
    }

    int served(int p) {
        if (none(p)) {
            return BAD;
        }
        return state.queue.contains(p) ? wait(state, p) : NO;
    }

    int stand(int p, int n, int what) {
        if (none(p) || n < 1 || n > 40 || what < 0 || what > 1) {
            return BAD;
        }
        if (!state.queue.contains(p)) {
            return NO;
        }
        int[] best = null;
        for (int place = 0; place < state.queue.size(); place++) {
            State from = state.copy();
            from.queue.remove(Integer.valueOf(p));
            from.queue.add(place, p);
            State then = later(from, persons, n);
            if (then.served.contains(p) && (best == null || due(then, p) > best[1])) {
                best = new int[] {place, due(then, p)};
            }
        }
        return best == null ? NONE : what == 0 ? best[0] : best[1] + 200000;
    }

    int haste(int p, int what) {
        if (none(p) || what < 0 || what > 1) {
            return BAD;
        }
        if (!state.queue.contains(p)) {
            return NO;
        }
        int who = 99;
        int soonest = wait(state, p);
        for (int pair = 0; pair < 70; pair++) {
            int a = pair / 10;
            int b = pair % 10;
            if (lets(state, a, b)) {
                State from = state.copy();
                doLet(from, a, b);
                int minutes = wait(from, p);
                if (minutes != NONE && (soonest == NONE || minutes < soonest)) {
                    who = pair;
                    soonest = minutes;
                }
            }
        }
        return soonest == NONE || what == 1 ? soonest : who;
    }

    /** Who comes first settles with each other one: the well-known search over who pays whom. */
    private static int settle(int[] dues, int from) {
        int start = from;
        while (start < dues.length && dues[start] == 0) {
            start++;
        }
        if (start == dues.length) {
            return 0;
        }
        int fewest = Integer.MAX_VALUE;
        for (int i = start + 1; i < dues.length; i++) {
            if (Integer.signum(dues[i]) == -Integer.signum(dues[start])) {
                dues[i] += dues[start];
                fewest = Math.min(fewest, 1 + settle(dues, start + 1));
                dues[i] -= dues[start];
            }
        }
        return fewest;
    }

    int clear() {
        int[] dues = new int[persons.size()];
        for (int p = 0; p < dues.length; p++) {
            dues[p] = due(state, p);
        }
        return settle(dues, 0);
    }

    int miss(int what) {
        if (what < 0 || what > 1) {
            return BAD;
        }
        int[] best = null;
        for (int p = 0; p < persons.size(); p++) {
            if (state.queue.contains(p)) {
                State from = state.copy();
                from.queue.remove(Integer.valueOf(p));
                State then = later(from, persons, 10);
                int sum = 0;
                for (int q : from.queue) {
                    sum += due(then, q);
                }
                if (best == null || sum > best[1]) {
                    best = new int[] {p, sum};
                }
            }
        }
        return best == null ? NONE : what == 0 ? best[0] : best[1] + 200000;
    }

    int see(int p, int n, int v) {
        if (none(p) || n < 1 || n > 20 || v < 0 || v > 400000) {
            return BAD;
        }
        if (seen.size() == 6) {
            return FULL;
        }
        seen.add(new int[] {p, n, v});
        return seen.size();
    }

    int forget() {
        int number = seen.size();
        seen.clear();
        return number;
    }

    private boolean comesSo(State from, List<Person> by, int whose) {
        for (int[] one : seen) {
            if ((whose < 0 || one[0] == whose) && due(later(from, by, one[1]), one[0]) + 200000 != one[2]) {
                return false;
            }
        }
        return true;
    }

    private void gather(List<Integer> begun, List<Integer> left, List<List<Integer>> found) {
        if (left.isEmpty()) {
            State from = state.copy();
            from.queue = new ArrayList<>(begun);
            if (comesSo(from, persons, -1)) {
                found.add(new ArrayList<>(begun));
            }
            return;
        }
        for (int i = 0; i < left.size(); i++) {
            List<Integer> rest = new ArrayList<>(left);
            begun.add(rest.remove(i));
            gather(begun, rest, found);
            begun.remove(begun.size() - 1);
        }
    }

    int orders(int k) {
        if (k < -1 || k > 6) {
            return BAD;
        }
        List<Integer> all = new ArrayList<>(state.queue);
        all.sort(null);
        List<List<Integer>> found = new ArrayList<>();
        gather(new ArrayList<>(), all, found);
        if (k == -1) {
            return found.size();
        }
        return found.isEmpty() || k >= all.size() ? NONE : found.get(0).get(k);
    }

    int kinds(int p) {
        if (none(p)) {
            return BAD;
        }
        if (!state.queue.contains(p)) {
            return NO;
        }
        int bits = 0;
        for (int kind = 0; kind < 4; kind++) {
            List<Person> by = new ArrayList<>(persons);
            Person one = by.get(p);
            by.set(p, new Person(kind, one.worth(), one.each(), one.money()));
            bits += comesSo(state, by, p) ? 1 << kind : 0;
        }
        return bits;
    }

    private int tenths(State at, int p, int n, int x) {
        if (n == 0) {
            return at.served.contains(p) ? 1 : 0;
        }
        State dry = at.copy();
        minute(dry, persons, false);
        State wet = at.copy();
        minute(wet, persons, true);
        return (10 - x) * tenths(dry, p, n - 1, x) + x * tenths(wet, p, n - 1, x);
    }

    int rain(int p, int n, int x, int part) {
        if (none(p) || n < 0 || n > 8 || x < 0 || x > 10 || part < 0 || part > 1) {
            return BAD;
        }
        BigInteger above = BigInteger.valueOf(tenths(state, p, n, x));
        BigInteger below = BigInteger.TEN.pow(n);
        return (part == 0 ? above : below).divide(above.gcd(below)).intValueExact();
    }

    int day(int z, int n, int what) {
        if (z < 0 || z > 9999 || n < 1 || n > 60 || what < 0 || what > 1) {
            return BAD;
        }
        State at = state.copy();
        for (int k = 0; k < n; k++) {
            BigInteger x = BigInteger.valueOf(7919L * z + 6151L * k + 1);
            int draw = x.multiply(x).mod(BigInteger.valueOf(65521)).intValueExact();
            int one = (draw >> 3) % persons.size();
            int other = (draw >> 6) % persons.size();
            int what8 = draw & 7;
            if (what8 < 2 && !at.queue.contains(one)) {
                doCome(at, one);
            } else if (what8 == 2 && lets(at, one, other)) {
                doLet(at, one, other);
            } else if (what8 == 3 && one != other) {
                doPay(at, one, other);
            }
            minute(at, persons, false);
        }
        return what == 0 ? at.queue.size() : allOwed(at);
    }

    private static int allOwed(State at) {
        int sum = 0;
        for (int debt : at.debts.values()) {
            sum += debt;
        }
        return sum;
    }

    int keep() {
        if (kept.size() == 2) {
            return FULL;
        }
        kept.add(state.copy());
        return kept.size();
    }

    int back() {
        if (kept.isEmpty()) {
            return NO;
        }
        state = kept.remove(kept.size() - 1);
        undone.clear();
        return kept.size();
    }

    int count(int what) {
        int away = persons.size() - state.queue.size() - state.served.size();
        int[] all = {persons.size(), each, state.minute - 1, state.queue.size(), state.served.size(), away,
            allOwed(state), seen.size(), undone.size(), kept.size(), text.length()};
        return what < 0 || what >= all.length ? BAD : all[what];
    }
}
