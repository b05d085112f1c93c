/** Hat pins for the second act, as ../shared/DOC.md tells it. */
public final class HatPins {
    public static final int BAD = -1, NO = -2, FULL = -3, NONE = -4;

    private static final String FIRST_TEXT =
            "g0,0,9,1,20;g1,3,6,2,15;g2,99,2,1,12;g3,10,5,1,30;g0,99,14,3,10;f0,2,2;f1,4,5;f2,4,1;l2,0,1;l1,2,3;l3,0;";

    private static final int TEXT_MOST = 200;
    private static final int GOINGS_MOST = 7;
    private static final int FOLLOWS_MOST = 6;
    private static final int LADIES_MOST = 4;
    private static final int NUMBERS_MOST = 5;
    private static final int PINS_MOST = 9;
    private static final int UNDONE_MOST = 8;
    private static final int KEPT_MOST = 2;
    private static final int NOTED_MOST = 8;
    private static final int MINUTES_MOST = 999;
    private static final int AHEAD = 60;
    private static final int STOP_MOST = 40;
    private static final int SOON = 9;
    private static final int TOLD = 10000;
    private static final int INTEREST_MOST = 20;
    private static final int WANE_MOST = 5;
    private static final int LEAST_WORTH = -20;

    private static final int PLAIN = 0, SLOW = 1, RISING = 2, FLAT = 3;
    private static final int KINDS = 4;
    private static final int TO_COME = 0, ON = 1, OVER = 2, PINNED = 3;

    private static final int ONLY_FOLLOWS = 99;
    /** Not 99: what follows can come to be due in minute 99. */
    private static final int NOT_DUE = 1000000;

    private final Text text = new Text();
    private final Evening laid = new Evening();
    private final Evening draft = new Evening();
    private final Standing now = new Standing();
    private final Standing trial = new Standing();
    private final Shelf undoable = new Shelf(UNDONE_MOST);
    private final Shelf saved = new Shelf(KEPT_MOST);
    private final int[] notedMinute = new int[NOTED_MOST];
    private final int[] notedWorth = new int[NOTED_MOST];
    private int noted;

    public HatPins() {
        for (int i = 0; i < FIRST_TEXT.length(); i++) {
            text.append(FIRST_TEXT.charAt(i));
        }
        text.readInto(laid);
        text.length = 0;
        now.start(laid);
    }

    // ---- evenings

    public int write(int letter) {
        if (letter < 32 || letter > 126) {
            return BAD;
        }
        return text.append(letter) ? text.length : FULL;
    }

    public int wipe() {
        int length = text.length;
        text.length = 0;
        return length;
    }

    public int fault() {
        return text.readInto(draft);
    }

    public int lay() {
        // The draft is read first: a text with a fault must leave what is laid.
        if (text.readInto(draft) != NONE || draft.goings == 0) {
            return NO;
        }
        text.readInto(laid);
        now.start(laid);
        undoable.held = 0;
        saved.held = 0;
        noted = 0;
        return laid.goings;
    }

    public int going(int g, int what) {
        if (!isGoing(g)) {
            return BAD;
        }
        switch (what) {
            case 0: return laid.kind[g];
            case 1: return laid.interest[g];
            case 2: return laid.wane[g];
            case 3: return laid.minutes[g];
            case 4: return now.state[g];
            case 5: return now.whenOf(g);
            case 6: return now.state[g] == ON ? now.worthOf(laid, g) + 20 : 20;
            default: return BAD;
        }
    }

    public int lady(int l, int what) {
        if (!isLady(l)) {
            return BAD;
        }
        switch (what) {
            case 0: return now.pins[l];
            case 1: return laid.reach[l];
            case 2: return now.pinnableBy(laid, l);
            default: return BAD;
        }
    }

    // ---- acts

    public int pass(int n) {
        if (n < 1 || n > 24) {
            return BAD;
        }
        if (now.minute + n > MINUTES_MOST) {
            return NO;
        }
        undoable.put(now);
        now.goBy(laid, n);
        return now.had + TOLD;
    }

    public int pin(int l, int g) {
        if (!isLady(l) || !isGoing(g)) {
            return BAD;
        }
        if (!now.canPin(laid, l, g)) {
            return NO;
        }
        undoable.put(now);
        now.pinBy(laid, l, g);
        return now.pins[l];
    }

    public int lend(int l, int m) {
        if (!isLady(l) || !isLady(m) || l == m) {
            return BAD;
        }
        if (now.pins[l] < 1) {
            return NO;
        }
        if (now.pins[m] >= PINS_MOST) {
            return FULL;
        }
        undoable.put(now);
        now.lendPin(l, m);
        return now.pins[m];
    }

    public int undo() {
        return undoable.takeInto(now) ? undoable.held : NO;
    }

    // ---- what comes, what is best

    public int behind(int n, int what) {
        if (n < 0 || n > AHEAD || !isEither(what)) {
            return BAD;
        }
        trial.copyOf(now);
        trial.goBy(laid, n);
        return what == 0 ? trial.had + TOLD : trial.onBits(laid);
    }

    public int dull() {
        trial.copyOf(now);
        for (int k = 0; k <= AHEAD; k++) {
            trial.beginDue(laid);
            if (trial.worthOfAll(laid) < 0) {
                return k;
            }
            trial.endMinute(laid);
        }
        return NONE;
    }

    public int quiet() {
        int run = 0;
        int longest = 0;
        trial.copyOf(now);
        for (int k = 0; k < AHEAD; k++) {
            trial.beginDue(laid);
            run = trial.onBits(laid) == 0 ? run + 1 : 0;
            longest = Math.max(longest, run);
            trial.endMinute(laid);
        }
        return longest;
    }

    public int stop(int g, int what) {
        if (!isGoing(g) || !isEither(what)) {
            return BAD;
        }
        if (now.state[g] == OVER || now.state[g] == PINNED) {
            return NO;
        }
        int which = NONE;
        int most = hadAsItIs();
        for (int k = 0; k <= STOP_MOST; k++) {
            int had = hadStopping(g, k);
            if (had > most) {
                which = k;
                most = had;
            }
        }
        return whichOrHad(which, most, what);
    }

    public int best(int what) {
        if (!isEither(what)) {
            return BAD;
        }
        int which = NONE;
        int most = hadAsItIs();
        for (int l = 0; l < laid.ladies; l++) {
            for (int g = 0; g < laid.goings; g++) {
                int had = now.canPin(laid, l, g) ? hadPinning(1 << g) : most;
                if (had > most) {
                    which = 10 * l + g;
                    most = had;
                }
            }
        }
        return whichOrHad(which, most, what);
    }

    public int both(int what) {
        if (!isEither(what)) {
            return BAD;
        }
        int which = NONE;
        int most = 0;
        for (int g = 0; g < laid.goings; g++) {
            for (int other = g + 1; other < laid.goings; other++) {
                if (now.state[g] != ON || now.state[other] != ON) {
                    continue;
                }
                int had = hadPinning(1 << g | 1 << other);
                // Any two are better than none here: what is had by no pin does not count.
                if (which == NONE || had > most) {
                    which = 10 * g + other;
                    most = had;
                }
            }
        }
        return whichOrHad(which, most, what);
    }

    public int never(int what) {
        if (!isEither(what)) {
            return BAD;
        }
        int which = NONE;
        int most = hadAsItIs();
        for (int g = 0; g < laid.goings; g++) {
            int had = now.state[g] == TO_COME ? hadWithout(g) : most;
            if (had > most) {
                which = g;
                most = had;
            }
        }
        return whichOrHad(which, most, what);
    }

    // ---- what was noted

    public int note(int g, int v) {
        if (g < 0 || g > 39 || v < -20 || v > 20) {
            return BAD;
        }
        if (noted >= NOTED_MOST) {
            return FULL;
        }
        notedMinute[noted] = g;
        notedWorth[noted] = v;
        noted++;
        return noted;
    }

    public int forget() {
        int were = noted;
        noted = 0;
        return were;
    }

    public int waning(int what) {
        if (!isEither(what)) {
            return BAD;
        }
        int many = 0;
        int first = NONE;
        for (int interest = 0; interest <= INTEREST_MOST; interest++) {
            for (int wane = 0; wane <= WANE_MOST; wane++) {
                if (allNotedSo(PLAIN, interest, wane)) {
                    first = many == 0 ? 10 * interest + wane : first;
                    many++;
                }
            }
        }
        return what == 0 ? many : first;
    }

    public int kinds(int g) {
        if (!isGoing(g)) {
            return BAD;
        }
        int bits = 0;
        for (int kind = 0; kind < KINDS; kind++) {
            if (allNotedSo(kind, laid.interest[g], laid.wane[g])) {
                bits |= 1 << kind;
            }
        }
        return bits;
    }

    // ---- late ones, seasons

    public int late(int t, int x, int h, int part) {
        if (t < 1 || t > 20 || x < 0 || x > 10 || h < 0 || h > 999 || !isEither(part)) {
            return BAD;
        }
        int soon = now.soonBits(laid);
        int above = 0;
        int below = chanceOf(0, soon, 10, 10);
        for (int tardy = 0; tardy < 1 << laid.goings; tardy++) {
            if ((tardy & ~soon) == 0 && hadLate(tardy, t) >= h) {
                above += chanceOf(tardy, soon, x, 10 - x);
            }
        }
        int common = commonDivisor(above, below);
        if (common < 1) {
            return NONE;
        }
        return part == 0 ? above / common : below / common;
    }

    public int season(int z, int n, int what) {
        if (z < 0 || z > 9999 || n < 1 || n > AHEAD || !isEither(what)) {
            return BAD;
        }
        trial.copyOf(now);
        for (int k = 0; k < n; k++) {
            actInTrial(draw(z, k));
            trial.goBy(laid, 1);
        }
        return what == 0 ? trial.had + TOLD : trial.pinsOfAll(laid);
    }

    public int keep() {
        if (saved.held >= KEPT_MOST) {
            return FULL;
        }
        saved.put(now);
        return saved.held;
    }

    public int back() {
        if (!saved.takeInto(now)) {
            return NO;
        }
        undoable.held = 0;
        return saved.held;
    }

    public int count(int what) {
        switch (what) {
            case 0: return laid.goings;
            case 1: return laid.ladies;
            case 2: return now.minute;
            case 3: return now.howMany(laid, TO_COME);
            case 4: return now.howMany(laid, ON);
            case 5: return now.howMany(laid, OVER);
            case 6: return now.howMany(laid, PINNED);
            case 7: return now.had + TOLD;
            case 8: return now.pinsOfAll(laid);
            case 9: return noted;
            case 10: return undoable.held;
            case 11: return saved.held;
            case 12: return text.length;
            default: return BAD;
        }
    }

    // ---- helpers of the calls

    private boolean isGoing(int g) {
        return g >= 0 && g < laid.goings;
    }

    private boolean isLady(int l) {
        return l >= 0 && l < laid.ladies;
    }

    private static boolean isEither(int what) {
        return what == 0 || what == 1;
    }

    private static int whichOrHad(int which, int had, int what) {
        if (which == NONE) {
            return NONE;
        }
        return what == 0 ? which : had + TOLD;
    }

    private int hadAsItIs() {
        trial.copyOf(now);
        trial.goBy(laid, AHEAD);
        return trial.had;
    }

    private int hadStopping(int g, int from) {
        trial.copyOf(now);
        trial.goBy(laid, from);
        for (int k = from; k < AHEAD; k++) {
            if (trial.state[g] == ON) {
                trial.finish(laid, g, PINNED);
            }
            trial.goBy(laid, 1);
        }
        return trial.had;
    }

    private int hadPinning(int these) {
        trial.copyOf(now);
        for (int g = 0; g < laid.goings; g++) {
            if ((these >> g & 1) == 1) {
                trial.finish(laid, g, PINNED);
            }
        }
        trial.goBy(laid, AHEAD);
        return trial.had;
    }

    private int hadWithout(int g) {
        trial.copyOf(now);
        // Told to be pinned without being finished: it can't begin, and nothing follows it.
        trial.state[g] = PINNED;
        trial.goBy(laid, AHEAD);
        return trial.had;
    }

    private int hadLate(int tardy, int by) {
        trial.copyOf(now);
        for (int g = 0; g < laid.goings; g++) {
            if ((tardy >> g & 1) == 1) {
                trial.due[g] += by;
            }
        }
        trial.goBy(laid, AHEAD);
        return trial.had;
    }

    /** Of all that is due soon: times one factor for each that is tardy, the other for the rest. */
    private static int chanceOf(int tardy, int soon, int ifTardy, int ifNot) {
        int chance = 1;
        for (int g = 0; g < GOINGS_MOST; g++) {
            if ((soon >> g & 1) == 1) {
                chance *= (tardy >> g & 1) == 1 ? ifTardy : ifNot;
            }
        }
        return chance;
    }

    private static int commonDivisor(int a, int b) {
        int large = a;
        int small = b;
        for (int step = 0; step < 100 && small != 0; step++) {
            int rest = large % small;
            large = small;
            small = rest;
        }
        return large;
    }

    private boolean allNotedSo(int kind, int interest, int wane) {
        for (int i = 0; i < noted && i < NOTED_MOST; i++) {
            if (worth(kind, interest, wane, notedMinute[i]) != notedWorth[i]) {
                return false;
            }
        }
        return true;
    }

    private static int draw(int z, int k) {
        long x = 7919L * z + 6151L * k + 1;
        return (int) (x * x % 65521);
    }

    private void actInTrial(int draw) {
        int ladies = laid.ladies;
        int goings = laid.goings;
        if (ladies < 1 || goings < 1) {
            return;
        }
        int act = draw % 8;
        int l = draw / 8 % ladies;
        int g = draw / 64 % goings;
        int m = draw / 64 % ladies;
        if (act <= 1 && trial.canPin(laid, l, g)) {
            trial.pinBy(laid, l, g);
        }
        if (act == 2 && l != m && trial.pins[l] > 0 && trial.pins[m] < PINS_MOST) {
            trial.lendPin(l, m);
        }
    }

    private static int worth(int kind, int interest, int wane, int age) {
        int worth;
        switch (kind) {
            case SLOW: worth = interest - wane * (age / 2); break;
            case RISING: worth = Math.min(interest + wane * age, 40); break;
            case FLAT: worth = Math.max(interest - wane * age, 0); break;
            default: worth = interest - wane * age; break;
        }
        return Math.max(worth, LEAST_WORTH);
    }

    /** The letters written, and the reading of them. */
    private static final class Text {
        final int[] letters = new int[TEXT_MOST];
        int length;
        private final int[] numbers = new int[NUMBERS_MOST];
        private int found;

        boolean append(int letter) {
            if (length < 0 || length >= TEXT_MOST) {
                return false;
            }
            letters[length] = letter;
            length++;
            return true;
        }

        /** The place of the first item that is at fault, or NONE; the evening holds those ahead of it. */
        int readInto(Evening evening) {
            evening.clear();
            int start = 0;
            for (int item = 0; item < TEXT_MOST && start < length; item++) {
                int end = readNumbers(start + 1);
                if (end == NONE || !evening.add(letterAt(start), numbers, found)) {
                    return start;
                }
                start = end;
            }
            return NONE;
        }

        /** The place behind the ; of the numbers that stand here, or NONE. */
        private int readNumbers(int start) {
            int place = start;
            for (int k = 0; k < NUMBERS_MOST; k++) {
                if (!isFigure(place)) {
                    return NONE;
                }
                int number = letterAt(place) - '0';
                place++;
                if (isFigure(place)) {
                    number = 10 * number + letterAt(place) - '0';
                    place++;
                }
                numbers[k] = number;
                found = k + 1;
                int sign = letterAt(place);
                place++;
                if (sign == ';') {
                    return place;
                }
                if (sign != ',') {
                    return NONE;
                }
            }
            return NONE;
        }

        private int letterAt(int place) {
            return place >= 0 && place < length && place < TEXT_MOST ? letters[place] : 0;
        }

        private boolean isFigure(int place) {
            int letter = letterAt(place);
            return letter >= '0' && letter <= '9';
        }
    }

    /** What a text tells: goings-on, what follows what, ladies. */
    private static final class Evening {
        int goings;
        int followings;
        int ladies;
        final int[] kind = new int[GOINGS_MOST];
        final int[] begins = new int[GOINGS_MOST];
        final int[] interest = new int[GOINGS_MOST];
        final int[] wane = new int[GOINGS_MOST];
        final int[] minutes = new int[GOINGS_MOST];
        final int[] leader = new int[FOLLOWS_MOST];
        final int[] follower = new int[FOLLOWS_MOST];
        final int[] gap = new int[FOLLOWS_MOST];
        final int[] pins = new int[LADIES_MOST];
        final int[] reach = new int[LADIES_MOST];

        void clear() {
            goings = 0;
            followings = 0;
            ladies = 0;
        }

        /** Whether the item of this letter is as it should be; it is added then. */
        boolean add(int letter, int[] numbers, int found) {
            if (found < 0 || found > numbers.length) {
                return false;
            }
            switch (letter) {
                case 'g': return found == 5 && addGoing(numbers);
                case 'f': return found == 3 && addFollowing(numbers);
                case 'l': return found >= 2 && addLady(numbers, found);
                default: return false;
            }
        }

        private boolean addGoing(int[] n) {
            if (goings >= GOINGS_MOST || n.length < 5) {
                return false;
            }
            boolean beginsWell = n[1] <= 60 || n[1] == ONLY_FOLLOWS;
            if (n[0] >= KINDS || !beginsWell || n[2] > INTEREST_MOST || n[3] > WANE_MOST) {
                return false;
            }
            if (n[4] < 1 || n[4] > 40) {
                return false;
            }
            kind[goings] = n[0];
            begins[goings] = n[1];
            interest[goings] = n[2];
            wane[goings] = n[3];
            minutes[goings] = n[4];
            goings++;
            return true;
        }

        private boolean addFollowing(int[] n) {
            if (followings >= FOLLOWS_MOST || n.length < 3) {
                return false;
            }
            if (n[0] >= goings || n[1] >= goings || n[0] == n[1] || n[2] > 20) {
                return false;
            }
            leader[followings] = n[0];
            follower[followings] = n[1];
            gap[followings] = n[2];
            followings++;
            return true;
        }

        private boolean addLady(int[] n, int found) {
            if (ladies >= LADIES_MOST || n[0] > PINS_MOST) {
                return false;
            }
            int reached = 0;
            for (int i = 1; i < found && i < n.length; i++) {
                if (n[i] >= KINDS || (reached >> n[i] & 1) == 1) {
                    return false;
                }
                reached |= 1 << n[i];
            }
            pins[ladies] = n[0];
            reach[ladies] = reached;
            ladies++;
            return true;
        }
    }

    /** How an evening stands between two minutes; minute is the one that is next. */
    private static final class Standing {
        int minute;
        int had;
        final int[] state = new int[GOINGS_MOST];
        final int[] due = new int[GOINGS_MOST];
        final int[] began = new int[GOINGS_MOST];
        final int[] pins = new int[LADIES_MOST];

        void start(Evening evening) {
            minute = 0;
            had = 0;
            for (int g = 0; g < GOINGS_MOST; g++) {
                state[g] = TO_COME;
                due[g] = evening.begins[g] == ONLY_FOLLOWS ? NOT_DUE : evening.begins[g];
                began[g] = 0;
            }
            System.arraycopy(evening.pins, 0, pins, 0, LADIES_MOST);
        }

        void copyOf(Standing other) {
            minute = other.minute;
            had = other.had;
            System.arraycopy(other.state, 0, state, 0, GOINGS_MOST);
            System.arraycopy(other.due, 0, due, 0, GOINGS_MOST);
            System.arraycopy(other.began, 0, began, 0, GOINGS_MOST);
            System.arraycopy(other.pins, 0, pins, 0, LADIES_MOST);
        }

        void goBy(Evening evening, int n) {
            for (int k = 0; k < n; k++) {
                beginDue(evening);
                had += worthOfAll(evening);
                endMinute(evening);
            }
        }

        void beginDue(Evening evening) {
            for (int g = 0; g < evening.goings; g++) {
                if (state[g] == TO_COME && due[g] <= minute) {
                    state[g] = ON;
                    began[g] = minute;
                }
            }
        }

        int worthOfAll(Evening evening) {
            int sum = 0;
            for (int g = 0; g < evening.goings; g++) {
                if (state[g] == ON) {
                    sum += worthOf(evening, g);
                }
            }
            return sum;
        }

        int worthOf(Evening evening, int g) {
            return worth(evening.kind[g], evening.interest[g], evening.wane[g], minute - began[g]);
        }

        /** The minute moves on first: what follows is due behind the one that is next then. */
        void endMinute(Evening evening) {
            minute++;
            for (int g = 0; g < evening.goings; g++) {
                if (state[g] == ON && minute - began[g] >= evening.minutes[g]) {
                    finish(evening, g, OVER);
                }
            }
        }

        void finish(Evening evening, int g, int how) {
            state[g] = how;
            for (int i = 0; i < evening.followings; i++) {
                int other = evening.follower[i];
                if (evening.leader[i] == g && state[other] == TO_COME) {
                    due[other] = Math.min(due[other], minute + evening.gap[i]);
                }
            }
        }

        boolean canPin(Evening evening, int l, int g) {
            boolean reaches = (evening.reach[l] >> evening.kind[g] & 1) == 1;
            return pins[l] > 0 && state[g] == ON && reaches;
        }

        void pinBy(Evening evening, int l, int g) {
            pins[l]--;
            finish(evening, g, PINNED);
        }

        void lendPin(int l, int m) {
            pins[l]--;
            pins[m]++;
        }

        int pinnableBy(Evening evening, int l) {
            int bits = 0;
            for (int g = 0; g < evening.goings; g++) {
                if (canPin(evening, l, g)) {
                    bits |= 1 << g;
                }
            }
            return bits;
        }

        int onBits(Evening evening) {
            int bits = 0;
            for (int g = 0; g < evening.goings; g++) {
                if (state[g] == ON) {
                    bits |= 1 << g;
                }
            }
            return bits;
        }

        int soonBits(Evening evening) {
            int bits = 0;
            for (int g = 0; g < evening.goings; g++) {
                if (state[g] == TO_COME && due[g] < minute + SOON) {
                    bits |= 1 << g;
                }
            }
            return bits;
        }

        int whenOf(int g) {
            if (state[g] != TO_COME) {
                return began[g];
            }
            return due[g] == NOT_DUE ? NONE : due[g];
        }

        int howMany(Evening evening, int ofState) {
            int many = 0;
            for (int g = 0; g < evening.goings; g++) {
                if (state[g] == ofState) {
                    many++;
                }
            }
            return many;
        }

        int pinsOfAll(Evening evening) {
            int sum = 0;
            for (int l = 0; l < evening.ladies; l++) {
                sum += pins[l];
            }
            return sum;
        }
    }

    /** Standings laid one upon the other; of too many the oldest falls out. */
    private static final class Shelf {
        private final Standing[] rows;
        int held;

        Shelf(int most) {
            rows = new Standing[Math.max(most, 1)];
            for (int i = 0; i < rows.length; i++) {
                rows[i] = new Standing();
            }
        }

        void put(Standing standing) {
            if (held >= rows.length) {
                dropOldest();
            }
            rows[held].copyOf(standing);
            held++;
        }

        private void dropOldest() {
            Standing oldest = rows[0];
            for (int i = 1; i < rows.length; i++) {
                rows[i - 1] = rows[i];
            }
            rows[rows.length - 1] = oldest;
            held = rows.length - 1;
        }

        boolean takeInto(Standing standing) {
            if (held < 1 || held > rows.length) {
                return false;
            }
            held--;
            standing.copyOf(rows[held]);
            return true;
        }
    }
}
