/**
 * A queue in which whoever is pushed past is owed what the place was worth more to the other one:
 * told in a text, changed by minutes and acts, and asked for what comes and what is best.
 */
public final class KerbQueue {
    public static final int BAD = -1, NO = -2, FULL = -3, NONE = -4;

    private static final int MOST_PERSONS = 7;
    private static final int MOST_LETTERS = 200;
    private static final int MOST_ORDERS = 5040;
    private static final int MOST_SEEN = 6;
    private static final int MOST_UNDONE = 8;
    private static final int MOST_KEPT = 2;
    private static final int LAST_MINUTE = 999;
    private static final int LONGEST_WAIT = 60;
    private static final int DUE_BASE = 200000;
    private static final int EVERYBODY = -1;

    private static final int PLAIN = 0;
    private static final int RUDE = 2;
    private static final int SHARP = 3;

    private static final int QUEUED = 0;
    private static final int SERVED = 1;
    private static final int AWAY = 2;

    private static final String FIRST_TEXT =
        "p0,5,3,20;p1,9,2,4;p2,7,2,30;p3,12,4,15;p0,3,1,9;p2,15,5,60;s4;d5,1,6;d2,0,3;";

    private final Folk folk;
    private final Scene now;
    private final Script script;
    private final Shelf past;
    private final Shelf kept;
    private final Foresight foresight;
    private final Sightings sightings;
    private final Chance chance;

    public KerbQueue() {
        folk = new Folk();
        now = new Scene();
        script = new Script();
        past = new Shelf(MOST_UNDONE);
        kept = new Shelf(MOST_KEPT);
        foresight = new Foresight(folk, now);
        sightings = new Sightings(folk, now);
        chance = new Chance(folk, now);
        for (int i = 0; i < FIRST_TEXT.length(); i++) {
            script.add(FIRST_TEXT.charAt(i));
        }
        script.read();
        takeScript();
        script.length = 0;
    }

    // ---- queues

    public int write(int letter) {
        if (letter < 32 || letter > 126) {
            return BAD;
        }
        if (script.length >= MOST_LETTERS) {
            return FULL;
        }
        script.add(letter);
        return script.length;
    }

    public int wipe() {
        int length = script.length;
        script.length = 0;
        return length;
    }

    public int fault() {
        return script.read();
    }

    public int lay() {
        if (script.read() != NONE || script.folk.number == 0) {
            return NO;
        }
        takeScript();
        sightings.number = 0;
        past.number = 0;
        kept.number = 0;
        return folk.number;
    }

    public int person(int p, int what) {
        if (!folk.isPerson(p)) {
            return BAD;
        }
        switch (what) {
            case 0: return Rows.at(folk.kind, p);
            case 1: return Rows.at(folk.worth, p);
            case 2: return Rows.at(folk.pushesEach, p);
            case 3: return Rows.at(now.purse, p);
            case 4: return now.placeOf(p);
            case 5: return Rows.at(now.where, p);
            case 6: return DUE_BASE + now.dueOf(p);
            default: return BAD;
        }
    }

    public int owes(int a, int b) {
        return areTwo(a, b) ? now.debt(a, b) : BAD;
    }

    public int place(int k) {
        if (k < 0 || k >= MOST_PERSONS) {
            return BAD;
        }
        return k < now.length ? Rows.at(now.line, k) : NONE;
    }

    public int would(int p) {
        if (!folk.isPerson(p)) {
            return BAD;
        }
        int place = now.placeOf(p);
        if (place < 1) {
            return NO;
        }
        int gain = folk.gain(p, Rows.at(now.line, place - 1));
        return now.wantsFor(folk, p, gain) ? 1 : 0;
    }

    // ---- acts

    public int pass(int n) {
        if (n < 1 || n > 24) {
            return BAD;
        }
        if (now.gone + n > LAST_MINUTE) {
            return NO;
        }
        past.push(now);
        now.run(folk, n);
        return now.gone;
    }

    public int let(int p, int q) {
        if (!areTwo(p, q)) {
            return BAD;
        }
        if (!now.canLet(p, q)) {
            return NO;
        }
        past.push(now);
        now.letPast(p, q);
        return now.placeOf(q);
    }

    public int leave(int p) {
        if (!folk.isPerson(p)) {
            return BAD;
        }
        if (!now.isQueued(p)) {
            return NO;
        }
        past.push(now);
        now.takeOut(p, AWAY);
        return now.length;
    }

    public int come(int p) {
        if (!folk.isPerson(p)) {
            return BAD;
        }
        if (now.isQueued(p)) {
            return NO;
        }
        past.push(now);
        now.append(p);
        return now.placeOf(p);
    }

    public int pay(int a, int b) {
        if (!areTwo(a, b)) {
            return BAD;
        }
        int sum = now.payable(a, b);
        if (sum == 0) {
            return NO;
        }
        past.push(now);
        now.settle(a, b);
        return sum;
    }

    public int undo() {
        if (past.number == 0) {
            return NO;
        }
        past.popInto(now);
        return past.number;
    }

    // ---- what comes, what is best

    public int behind(int n, int p, int what) {
        if (n < 0 || n > 40 || !folk.isPerson(p) || isNoPart(what)) {
            return BAD;
        }
        Scene then = foresight.sceneBehind(n);
        return what == 0 ? then.placeOf(p) : DUE_BASE + then.dueOf(p);
    }

    public int served(int p) {
        if (!folk.isPerson(p)) {
            return BAD;
        }
        if (!now.isQueued(p)) {
            return NO;
        }
        return foresight.waitOf(p);
    }

    public int stand(int p, int n, int what) {
        if (!folk.isPerson(p) || n < 1 || n > 40 || isNoPart(what)) {
            return BAD;
        }
        if (!now.isQueued(p)) {
            return NO;
        }
        foresight.seekStand(p, n);
        if (!foresight.found) {
            return NONE;
        }
        return what == 0 ? foresight.choice : DUE_BASE + foresight.value;
    }

    public int haste(int p, int what) {
        if (!folk.isPerson(p) || isNoPart(what)) {
            return BAD;
        }
        if (!now.isQueued(p)) {
            return NO;
        }
        foresight.seekHaste(p);
        if (!foresight.found) {
            return NONE;
        }
        return what == 0 ? foresight.choice : foresight.value;
    }

    public int clear() {
        return foresight.fewestPayments();
    }

    public int miss(int what) {
        if (isNoPart(what)) {
            return BAD;
        }
        foresight.seekMiss();
        if (!foresight.found) {
            return NONE;
        }
        return what == 0 ? foresight.choice : DUE_BASE + foresight.value;
    }

    // ---- what was seen

    public int see(int p, int n, int v) {
        if (!folk.isPerson(p) || n < 1 || n > 20 || v < 0 || v > 2 * DUE_BASE) {
            return BAD;
        }
        if (sightings.number >= MOST_SEEN) {
            return FULL;
        }
        sightings.add(p, n, v - DUE_BASE);
        return sightings.number;
    }

    public int forget() {
        int number = sightings.number;
        sightings.number = 0;
        return number;
    }

    public int orders(int k) {
        if (k < -1 || k >= MOST_PERSONS) {
            return BAD;
        }
        if (k == -1) {
            return sightings.countOrders(MOST_ORDERS);
        }
        if (k >= now.length || sightings.countOrders(1) == 0) {
            return NONE;
        }
        return Rows.at(sightings.order, k);
    }

    public int kinds(int p) {
        if (!folk.isPerson(p)) {
            return BAD;
        }
        if (!now.isQueued(p)) {
            return NO;
        }
        return sightings.fittingKinds(p);
    }

    // ---- rain, days

    public int rain(int p, int n, int x, int part) {
        if (!folk.isPerson(p) || n < 0 || n > 8 || x < 0 || x > 10 || isNoPart(part)) {
            return BAD;
        }
        chance.seekServed(p, n, x);
        return part == 0 ? chance.above : chance.below;
    }

    public int day(int z, int n, int what) {
        if (z < 0 || z > 9999 || n < 1 || n > 60 || isNoPart(what)) {
            return BAD;
        }
        Scene evening = chance.sceneBehindDay(z, n);
        return what == 0 ? evening.length : evening.owedInAll();
    }

    public int keep() {
        if (kept.number >= MOST_KEPT) {
            return FULL;
        }
        kept.push(now);
        return kept.number;
    }

    public int back() {
        if (kept.number == 0) {
            return NO;
        }
        kept.popInto(now);
        past.number = 0;
        return kept.number;
    }

    public int count(int what) {
        switch (what) {
            case 0: return folk.number;
            case 1: return folk.servedEach;
            case 2: return now.gone;
            case 3: return now.length;
            case 4: return now.numberOf(folk, SERVED);
            case 5: return now.numberOf(folk, AWAY);
            case 6: return now.owedInAll();
            case 7: return sightings.number;
            case 8: return past.number;
            case 9: return kept.number;
            case 10: return script.length;
            default: return BAD;
        }
    }

    private void takeScript() {
        folk.copyFrom(script.folk);
        now.copyFrom(script.scene);
    }

    private boolean areTwo(int a, int b) {
        return folk.isPerson(a) && folk.isPerson(b) && a != b;
    }

    private static boolean isNoPart(int what) {
        return what != 0 && what != 1;
    }

    /** Rows of numbers, each index looked at before it is used. */
    private static final class Rows {
        static int at(int[] row, int i) {
            return i >= 0 && i < row.length ? row[i] : 0;
        }

        static void put(int[] row, int i, int value) {
            if (i >= 0 && i < row.length) {
                row[i] = value;
            }
        }

        static void copy(int[] from, int[] to) {
            System.arraycopy(from, 0, to, 0, Math.min(from.length, to.length));
        }

        static boolean isMultiple(int number, int of) {
            return of > 0 && number % of == 0;
        }
    }

    /** What no minute and no act changes: the persons as they are told, and how often one is served. */
    private static final class Folk {
        final int[] kind = new int[MOST_PERSONS];
        final int[] worth = new int[MOST_PERSONS];
        final int[] pushesEach = new int[MOST_PERSONS];
        int number;
        int servedEach;

        void empty() {
            number = 0;
            servedEach = 3;
        }

        void copyFrom(Folk other) {
            Rows.copy(other.kind, kind);
            Rows.copy(other.worth, worth);
            Rows.copy(other.pushesEach, pushesEach);
            number = other.number;
            servedEach = other.servedEach;
        }

        void add(int itsKind, int itsWorth, int minutes) {
            Rows.put(kind, number, itsKind);
            Rows.put(worth, number, itsWorth);
            Rows.put(pushesEach, number, minutes);
            number++;
        }

        boolean isPerson(int p) {
            return p >= 0 && p < number;
        }

        int gain(int p, int other) {
            return Rows.at(worth, p) - Rows.at(worth, other);
        }
    }

    /** All that minutes and acts change: who stands where, what each has, who owes whom. */
    private static final class Scene {
        final int[] line = new int[MOST_PERSONS];
        final int[] where = new int[MOST_PERSONS];
        final int[] purse = new int[MOST_PERSONS];
        final int[] debts = new int[MOST_PERSONS * MOST_PERSONS];
        int length;
        int gone;

        void empty() {
            for (int i = 0; i < debts.length; i++) {
                debts[i] = 0;
            }
            length = 0;
            gone = 0;
        }

        void copyFrom(Scene other) {
            Rows.copy(other.line, line);
            Rows.copy(other.where, where);
            Rows.copy(other.purse, purse);
            Rows.copy(other.debts, debts);
            length = other.length;
            gone = other.gone;
        }

        int placeOf(int p) {
            for (int k = 0; k < length; k++) {
                if (Rows.at(line, k) == p) {
                    return k;
                }
            }
            return NONE;
        }

        boolean isQueued(int p) {
            return placeOf(p) != NONE;
        }

        boolean isServed(int p) {
            return Rows.at(where, p) == SERVED;
        }

        int numberOf(Folk folk, int state) {
            int number = 0;
            for (int p = 0; p < folk.number; p++) {
                if (Rows.at(where, p) == state) {
                    number++;
                }
            }
            return number;
        }

        int debt(int a, int b) {
            return Rows.at(debts, a * MOST_PERSONS + b);
        }

        void setDebt(int a, int b, int sum) {
            Rows.put(debts, a * MOST_PERSONS + b, sum);
        }

        int dueOf(int p) {
            int due = 0;
            for (int q = 0; q < MOST_PERSONS; q++) {
                due += debt(q, p) - debt(p, q);
            }
            return due;
        }

        int owedInAll() {
            int sum = 0;
            for (int i = 0; i < debts.length; i++) {
                sum += debts[i];
            }
            return sum;
        }

        void append(int p) {
            insert(p, length);
        }

        void insert(int p, int place) {
            for (int k = length; k > place; k--) {
                Rows.put(line, k, Rows.at(line, k - 1));
            }
            Rows.put(line, place, p);
            Rows.put(where, p, QUEUED);
            length++;
        }

        void takeOut(int p, int state) {
            int place = placeOf(p);
            if (place == NONE) {
                return;
            }
            length--;
            for (int k = place; k < length; k++) {
                Rows.put(line, k, Rows.at(line, k + 1));
            }
            Rows.put(where, p, state);
        }

        boolean canLet(int p, int q) {
            int place = placeOf(p);
            return place != NONE && placeOf(q) > place;
        }

        void letPast(int p, int q) {
            int place = placeOf(p);
            takeOut(q, AWAY);
            insert(q, place);
        }

        int payable(int a, int b) {
            return Math.min(debt(a, b), Rows.at(purse, a));
        }

        void settle(int a, int b) {
            int sum = payable(a, b);
            setDebt(a, b, debt(a, b) - sum);
            Rows.put(purse, a, Rows.at(purse, a) - sum);
            Rows.put(purse, b, Rows.at(purse, b) + sum);
        }

        /** Whether one WOULD push past another one, a place being worth that much more to it. */
        boolean wantsFor(Folk folk, int p, int gain) {
            switch (Rows.at(folk.kind, p)) {
                case PLAIN: return gain > 0;
                case RUDE: return true;
                case SHARP: return gain > 0 && Rows.at(purse, p) >= gain;
                default: return false;
            }
        }

        void run(Folk folk, int minutes) {
            for (int i = 0; i < minutes; i++) {
                runMinute(folk, true);
            }
        }

        void runMinute(Folk folk, boolean pushing) {
            gone++;
            if (pushing) {
                pushAll(folk);
            }
            if (length > 0 && Rows.isMultiple(gone, folk.servedEach)) {
                takeOut(Rows.at(line, 0), SERVED);
            }
        }

        // A push only shifts those ahead of the next one in turn, so that each still
        // stands where it stood ahead of the minute when its turn comes.
        private void pushAll(Folk folk) {
            for (int k = 1; k < length && k < line.length; k++) {
                int p = line[k];
                if (Rows.isMultiple(gone, Rows.at(folk.pushesEach, p))) {
                    int other = line[k - 1];
                    int gain = folk.gain(p, other);
                    if (wantsFor(folk, p, gain)) {
                        line[k - 1] = p;
                        line[k] = other;
                        setDebt(p, other, debt(p, other) + Math.max(0, gain));
                    }
                }
            }
        }
    }

    /** THE TEXT, and what it tells, as far as it was read last. */
    private static final class Script {
        final Folk folk = new Folk();
        final Scene scene = new Scene();
        int length;
        private final int[] letters = new int[MOST_LETTERS];
        private final int[] numbers = new int[4];
        private int at;

        void add(int letter) {
            Rows.put(letters, length, letter);
            length++;
        }

        /** Reads THE TEXT: its FAULT, or NONE. */
        int read() {
            folk.empty();
            scene.empty();
            at = 0;
            for (int items = 0; items < MOST_LETTERS && at < length; items++) {
                int start = at;
                if (!readItem()) {
                    return start;
                }
            }
            return NONE;
        }

        private boolean readItem() {
            int letter = letterAt(at);
            at++;
            switch (letter) {
                case 'p': return readNumbers(4) && tellPerson();
                case 's': return readNumbers(1) && tellServed();
                case 'd': return readNumbers(3) && tellDebt();
                default: return false;
            }
        }

        private boolean readNumbers(int many) {
            for (int i = 0; i < many; i++) {
                if (!readNumber(i) || letterAt(at) != (i == many - 1 ? ';' : ',')) {
                    return false;
                }
                at++;
            }
            return true;
        }

        private boolean readNumber(int i) {
            if (!isFigure(letterAt(at))) {
                return false;
            }
            int number = letterAt(at) - '0';
            at++;
            if (isFigure(letterAt(at))) {
                number = 10 * number + letterAt(at) - '0';
                at++;
            }
            Rows.put(numbers, i, number);
            return true;
        }

        private boolean tellPerson() {
            int kind = Rows.at(numbers, 0);
            int worth = Rows.at(numbers, 1);
            int minutes = Rows.at(numbers, 2);
            int money = Rows.at(numbers, 3);
            if (kind > 3 || worth > 20 || minutes < 1 || minutes > 9 || money > 60
                || folk.number >= MOST_PERSONS) {
                return false;
            }
            Rows.put(scene.purse, folk.number, money);
            scene.append(folk.number);
            folk.add(kind, worth, minutes);
            return true;
        }

        private boolean tellServed() {
            int minutes = Rows.at(numbers, 0);
            if (minutes < 1 || minutes > 9) {
                return false;
            }
            folk.servedEach = minutes;
            return true;
        }

        private boolean tellDebt() {
            int a = Rows.at(numbers, 0);
            int b = Rows.at(numbers, 1);
            int sum = Rows.at(numbers, 2);
            if (!folk.isPerson(a) || !folk.isPerson(b) || a == b || sum > 60) {
                return false;
            }
            scene.setDebt(a, b, sum);
            return true;
        }

        // What stood in the row ahead of a wipe is no part of THE TEXT.
        private int letterAt(int i) {
            return i < length ? Rows.at(letters, i) : 0;
        }

        private static boolean isFigure(int letter) {
            return letter >= '0' && letter <= '9';
        }
    }

    /** Scenes laid one on another; when there is no room, the lowest one goes. */
    private static final class Shelf {
        int number;
        private final Scene[] scenes;

        Shelf(int room) {
            scenes = new Scene[Math.max(room, 0)];
            for (int i = 0; i < scenes.length; i++) {
                scenes[i] = new Scene();
            }
        }

        void push(Scene scene) {
            if (number >= scenes.length) {
                turn();
                number = scenes.length - 1;
            }
            Scene slot = slotAt(number);
            if (slot != null) {
                slot.copyFrom(scene);
                number++;
            }
        }

        void popInto(Scene scene) {
            Scene slot = slotAt(number - 1);
            if (slot != null) {
                scene.copyFrom(slot);
                number--;
            }
        }

        // The lowest scene's own rows are used again on top.
        private void turn() {
            Scene lowest = slotAt(0);
            for (int i = 1; i < scenes.length; i++) {
                scenes[i - 1] = scenes[i];
            }
            if (scenes.length > 0) {
                scenes[scenes.length - 1] = lowest;
            }
        }

        private Scene slotAt(int i) {
            return i >= 0 && i < scenes.length ? scenes[i] : null;
        }
    }

    /** What comes if nothing else is done, and what would be best to do. */
    private static final class Foresight {
        boolean found;
        int choice;
        int value;
        private final Folk folk;
        private final Scene now;
        private final Scene trial = new Scene();
        private final int[] sums = new int[1 << MOST_PERSONS];
        private final int[] groups = new int[1 << MOST_PERSONS];

        Foresight(Folk folk, Scene now) {
            this.folk = folk;
            this.now = now;
        }

        Scene sceneBehind(int n) {
            trial.copyFrom(now);
            trial.run(folk, n);
            return trial;
        }

        int waitOf(int p) {
            trial.copyFrom(now);
            return waitInTrialOf(p);
        }

        private int waitInTrialOf(int p) {
            for (int minutes = 1; minutes <= LONGEST_WAIT; minutes++) {
                trial.runMinute(folk, true);
                if (trial.isServed(p)) {
                    return minutes;
                }
            }
            return NONE;
        }

        void seekStand(int p, int n) {
            found = false;
            for (int place = 0; place < now.length; place++) {
                trial.copyFrom(now);
                trial.takeOut(p, AWAY);
                trial.insert(p, place);
                trial.run(folk, n);
                if (trial.isServed(p)) {
                    offerMost(place, trial.dueOf(p));
                }
            }
        }

        void seekHaste(int p) {
            found = false;
            trial.copyFrom(now);
            offerSoonest(99, waitInTrialOf(p));
            for (int one = 0; one < folk.number; one++) {
                for (int other = 0; other < folk.number; other++) {
                    if (now.canLet(one, other)) {
                        trial.copyFrom(now);
                        trial.letPast(one, other);
                        offerSoonest(10 * one + other, waitInTrialOf(p));
                    }
                }
            }
        }

        void seekMiss() {
            found = false;
            for (int p = 0; p < folk.number; p++) {
                if (now.isQueued(p)) {
                    trial.copyFrom(now);
                    trial.takeOut(p, AWAY);
                    trial.run(folk, 10);
                    offerMost(p, duesInTrialOfOthers(p));
                }
            }
        }

        private int duesInTrialOfOthers(int p) {
            int sum = 0;
            for (int k = 0; k < now.length; k++) {
                int q = Rows.at(now.line, k);
                if (q != p) {
                    sum += trial.dueOf(q);
                }
            }
            return sum;
        }

        private void offerMost(int candidate, int amount) {
            if (!found || amount > value) {
                take(candidate, amount);
            }
        }

        private void offerSoonest(int candidate, int minutes) {
            if (minutes != NONE && (!found || minutes < value)) {
                take(candidate, minutes);
            }
        }

        private void take(int candidate, int amount) {
            found = true;
            choice = candidate;
            value = amount;
        }

        // Persons whose dues together are none can clear them with one payment less than they
        // are, so that the fewest payments come from parting all into the most such groups.
        int fewestPayments() {
            for (int p = 0; p < folk.number; p++) {
                int due = now.dueOf(p);
                int bit = 1 << p;
                for (int set = bit; set < 2 * bit; set++) {
                    int sum = Rows.at(sums, set - bit) + due;
                    Rows.put(sums, set, sum);
                    Rows.put(groups, set, mostGroupsInParts(set) + (sum == 0 ? 1 : 0));
                }
            }
            return folk.number - Rows.at(groups, (1 << folk.number) - 1);
        }

        private int mostGroupsInParts(int set) {
            int most = 0;
            for (int p = 0; p < folk.number; p++) {
                if ((set >> p & 1) == 1) {
                    most = Math.max(most, Rows.at(groups, set & ~(1 << p)));
                }
            }
            return most;
        }
    }

    /** What is SEEN, and by which orders and kinds it would be so. */
    private static final class Sightings {
        int number;
        final int[] order = new int[MOST_PERSONS];
        private final int[] persons = new int[MOST_SEEN];
        private final int[] minutes = new int[MOST_SEEN];
        private final int[] dues = new int[MOST_SEEN];
        private final Folk folk;
        private final Folk otherFolk = new Folk();
        private final Scene now;
        private final Scene trial = new Scene();

        Sightings(Folk folk, Scene now) {
            this.folk = folk;
            this.now = now;
        }

        void add(int p, int n, int due) {
            Rows.put(persons, number, p);
            Rows.put(minutes, number, n);
            Rows.put(dues, number, due);
            number++;
        }

        /** How many orders fit; at so many it ends, and order is the last of them. */
        int countOrders(int enough) {
            int fitting = 0;
            boolean more = true;
            startOrders();
            for (int i = 0; i < MOST_ORDERS && more; i++) {
                trial.copyFrom(now);
                Rows.copy(order, trial.line);
                if (comesTrue(folk, EVERYBODY)) {
                    fitting++;
                }
                more = fitting < enough && nextOrder();
            }
            return fitting;
        }

        int fittingKinds(int p) {
            int bits = 0;
            otherFolk.copyFrom(folk);
            for (int kind = 0; kind <= SHARP; kind++) {
                Rows.put(otherFolk.kind, p, kind);
                trial.copyFrom(now);
                if (comesTrue(otherFolk, p)) {
                    bits |= 1 << kind;
                }
            }
            return bits;
        }

        private void startOrders() {
            int filled = 0;
            for (int p = 0; p < folk.number; p++) {
                if (now.isQueued(p)) {
                    Rows.put(order, filled, p);
                    filled++;
                }
            }
        }

        /** Turns order into the next one, by who is first, then second; false behind the last one. */
        private boolean nextOrder() {
            int rising = now.length - 2;
            while (rising >= 0 && Rows.at(order, rising) > Rows.at(order, rising + 1)) {
                rising--;
            }
            if (rising < 0) {
                return false;
            }
            int higher = now.length - 1;
            while (higher > rising && Rows.at(order, higher) < Rows.at(order, rising)) {
                higher--;
            }
            swap(rising, higher);
            int low = rising + 1;
            for (int high = now.length - 1; high > low; high--) {
                swap(low, high);
                low++;
            }
            return true;
        }

        private void swap(int i, int j) {
            int p = Rows.at(order, i);
            Rows.put(order, i, Rows.at(order, j));
            Rows.put(order, j, p);
        }

        private boolean comesTrue(Folk those, int whose) {
            int last = lastMinute(whose);
            for (int n = 1; n <= last; n++) {
                trial.runMinute(those, true);
                if (!agreesBehind(n, whose)) {
                    return false;
                }
            }
            return true;
        }

        private int lastMinute(int whose) {
            int last = 0;
            for (int i = 0; i < number; i++) {
                if (isOf(i, whose)) {
                    last = Math.max(last, Rows.at(minutes, i));
                }
            }
            return last;
        }

        private boolean agreesBehind(int n, int whose) {
            for (int i = 0; i < number; i++) {
                if (isOf(i, whose) && Rows.at(minutes, i) == n
                    && trial.dueOf(Rows.at(persons, i)) != Rows.at(dues, i)) {
                    return false;
                }
            }
            return true;
        }

        private boolean isOf(int i, int whose) {
            return whose == EVERYBODY || Rows.at(persons, i) == whose;
        }
    }

    /** Rain, and days by draws. */
    private static final class Chance {
        int above;
        int below;
        private final Folk folk;
        private final Scene now;
        private final Scene trial = new Scene();

        Chance(Folk folk, Scene now) {
            this.folk = folk;
            this.now = now;
        }

        void seekServed(int p, int n, int tenths) {
            int hits = 0;
            int all = 1;
            for (int i = 0; i < n; i++) {
                all *= 10;
            }
            for (int wet = 0; wet < 1 << n; wet++) {
                int weight = weightOf(wet, n, tenths);
                if (weight > 0 && isServedBehind(p, n, wet)) {
                    hits += weight;
                }
            }
            int common = commonDivisor(all, hits);
            if (common > 0) {
                above = hits / common;
                below = all / common;
            }
        }

        private static int weightOf(int wet, int n, int tenths) {
            int weight = 1;
            for (int i = 0; i < n; i++) {
                weight *= (wet >> i & 1) == 1 ? tenths : 10 - tenths;
            }
            return weight;
        }

        private boolean isServedBehind(int p, int n, int wet) {
            trial.copyFrom(now);
            for (int i = 0; i < n; i++) {
                trial.runMinute(folk, (wet >> i & 1) == 0);
            }
            return trial.isServed(p);
        }

        private static int commonDivisor(int a, int b) {
            int high = a;
            int low = b;
            for (int i = 0; i < 64 && low > 0; i++) {
                int rest = high % low;
                high = low;
                low = rest;
            }
            return high;
        }

        Scene sceneBehindDay(int z, int n) {
            trial.copyFrom(now);
            for (int k = 0; k < n; k++) {
                actByDraw(drawOf(z, k));
                trial.runMinute(folk, true);
            }
            return trial;
        }

        private static int drawOf(int z, int k) {
            long x = 7919L * z + 6151L * k + 1;
            return (int) (x * x % 65521);
        }

        private void actByDraw(int draw) {
            if (folk.number < 1) {
                return;
            }
            int one = draw / 8 % folk.number;
            int other = draw / 64 % folk.number;
            switch (draw % 8) {
                case 0:
                case 1:
                    if (!trial.isQueued(one)) {
                        trial.append(one);
                    }
                    break;
                case 2:
                    if (trial.canLet(one, other)) {
                        trial.letPast(one, other);
                    }
                    break;
                case 3:
                    trial.settle(one, other);
                    break;
                default:
                    break;
            }
        }
    }
}
