import java.util.ArrayDeque;
import java.util.ArrayList;
import java.util.Arrays;
import java.util.HashSet;
import java.util.List;
import java.util.Set;
import java.util.function.IntPredicate;
import java.util.regex.Matcher;
import java.util.regex.Pattern;

/** Drawn runs of calls: the class against a second telling of the document, made another way. */
public final class ModelTest {
    private static final int BAD = -1, NO = -2, FULL = -3, NONE = -4;
    /** Behind so many calls a text of 200 letters can still be laid: 512 calls are promised. */
    private static final int RUNS = 2000, CALLS = 300;

    /** One thing that goes on; when it began and ended, and how, is all that is held of it. */
    private static final class Thing implements Cloneable {
        int kind, interest, wane, length;
        Integer due, began;
        boolean over, pinned, barred;

        boolean isOn() {
            return began != null && !over && !pinned;
        }

        boolean isToCome() {
            return began == null && !barred;
        }

        Thing copy() {
            try {
                return (Thing) clone();
            } catch (CloneNotSupportedException e) {
                throw new IllegalStateException(e);
            }
        }
    }

    private static int worthOf(int kind, int interest, int wane, int g) {
        int w = kind == 0 || kind == 3 ? interest - wane * g
            : kind == 1 ? interest - wane * ((g - g % 2) / 2)
            : interest + wane * g > 40 ? 40 : interest + wane * g;
        if (kind == 3 && w < 0) {
            w = 0;
        }
        return w < -20 ? -20 : w;
    }

    private static final class Night {
        List<Thing> things = new ArrayList<>();
        List<int[]> follows = new ArrayList<>();
        List<Set<Integer>> reached = new ArrayList<>();
        int[] pins = {};
        int minute, had;

        Night copy() {
            Night n = new Night();
            for (Thing t : things) {
                n.things.add(t.copy());
            }
            n.follows = follows;
            n.reached = reached;
            n.pins = pins.clone();
            n.minute = minute;
            n.had = had;
            return n;
        }

        int stateOf(int g) {
            Thing t = things.get(g);
            return t.pinned ? 3 : t.over ? 2 : t.began != null ? 1 : 0;
        }

        Set<Integer> onNow() {
            Set<Integer> on = new HashSet<>();
            for (int g = 0; g < things.size(); g++) {
                if (things.get(g).isOn()) {
                    on.add(g);
                }
            }
            return on;
        }

        void hasten(int leader, int next) {
            for (int[] f : follows) {
                Thing t = things.get(f[1]);
                if (f[0] == leader && t.isToCome() && (t.due == null || t.due > next + f[2])) {
                    t.due = next + f[2];
                }
            }
        }

        /** What is on in the minute that is next, and its worth; the minute does not go by. */
        Night begun() {
            Night n = copy();
            for (Thing t : n.things) {
                if (t.isToCome() && t.due != null && t.due <= minute) {
                    t.began = minute;
                }
            }
            return n;
        }

        int worthNow() {
            int sum = 0;
            for (int g : onNow()) {
                sum += worthNow(g);
            }
            return sum;
        }

        int worthNow(int g) {
            Thing t = things.get(g);
            return worthOf(t.kind, t.interest, t.wane, minute - t.began);
        }

        Night next() {
            Night n = begun();
            n.had += n.worthNow();
            for (int g : n.onNow()) {
                Thing t = n.things.get(g);
                if (t.began + t.length - 1 == minute) {
                    t.over = true;
                }
            }
            for (int g = 0; g < things.size(); g++) {
                if (n.things.get(g).over && !things.get(g).over) {
                    n.hasten(g, minute + 1);
                }
            }
            n.minute++;
            return n;
        }

        Night after(int minutes) {
            Night n = this;
            for (int i = 0; i < minutes; i++) {
                n = n.next();
            }
            return n;
        }

        Night pinned(int... which) {
            Night n = copy();
            for (int g : which) {
                n.things.get(g).pinned = true;
                n.hasten(g, minute);
            }
            return n;
        }

        boolean could(int l, int g) {
            return pins[l] != 0 && things.get(g).isOn() && reached.get(l).contains(things.get(g).kind);
        }

        int bits(IntPredicate of) {
            int bits = 0;
            for (int g = things.size() - 1; g >= 0; g--) {
                bits = 2 * bits + (of.test(g) ? 1 : 0);
            }
            return bits;
        }
    }

    /** The second telling: all calls, by name. */
    private static final class Model {
        String text = "";
        Night night;
        ArrayDeque<Night> undo = new ArrayDeque<>();
        ArrayDeque<Night> kept = new ArrayDeque<>();
        List<int[]> notes = new ArrayList<>();

        Model() {
            night = read("g0,0,9,1,20;g1,3,6,2,15;g2,99,2,1,12;g3,10,5,1,30;g0,99,14,3,10;"
                + "f0,2,2;f1,4,5;f2,4,1;l2,0,1;l1,2,3;l3,0;", new int[1]);
        }

        private static final Pattern ITEM = Pattern.compile("([gfl])([0-9]{1,2}(?:,[0-9]{1,2})*);");

        static Night read(String text, int[] fault) {
            Night n = new Night();
            List<Integer> pins = new ArrayList<>();
            Matcher m = ITEM.matcher(text);
            int at = 0;
            fault[0] = NONE;
            while (at < text.length()) {
                m.region(at, text.length());
                if (!m.lookingAt() || !taken(n, pins, m.group(1), Arrays.stream(m.group(2).split(","))
                    .mapToInt(Integer::parseInt).toArray())) {
                    fault[0] = at;
                    return null;
                }
                at = m.end();
            }
            n.pins = pins.stream().mapToInt(i -> i).toArray();
            return n;
        }

        static boolean taken(Night n, List<Integer> pins, String letter, int[] v) {
            if (letter.equals("g")) {
                if (v.length != 5 || n.things.size() == 7 || v[0] > 3 || v[1] > 60 && v[1] != 99 || v[2] > 20
                    || v[3] > 5 || v[4] == 0 || v[4] > 40) {
                    return false;
                }
                Thing t = new Thing();
                t.kind = v[0];
                t.due = v[1] == 99 ? null : v[1];
                t.interest = v[2];
                t.wane = v[3];
                t.length = v[4];
                return n.things.add(t);
            }
            if (letter.equals("f")) {
                int told = n.things.size();
                return v.length == 3 && n.follows.size() < 6 && v[0] < told && v[1] < told && v[0] != v[1]
                    && v[2] <= 20 && n.follows.add(v);
            }
            Set<Integer> kinds = new HashSet<>();
            for (int i = 1; i < v.length; i++) {
                if (v[i] > 3 || !kinds.add(v[i])) {
                    return false;
                }
            }
            return v[0] < 10 && !kinds.isEmpty() && n.reached.size() < 4 && n.reached.add(kinds) && pins.add(v[0]);
        }

        void act(Night then) {
            undo.push(night);
            if (undo.size() > 8) {
                undo.removeLast();
            }
            night = then;
        }

        boolean thing(int g) {
            return g >= 0 && g < night.things.size();
        }

        boolean lady(int l) {
            return l >= 0 && l < night.pins.length;
        }

        int answer(String call, int a, int b, int c, int d) {
            switch (call) {
                case "write": return a < 32 || a > 126 ? BAD : text.length() == 200 ? FULL : (text += (char) a).length();
                case "wipe": {
                    int was = text.length();
                    text = "";
                    return was;
                }
                case "fault": {
                    int[] fault = new int[1];
                    read(text, fault);
                    return fault[0];
                }
                case "lay": return lay();
                case "going": return thing(a) ? going(a, b) : BAD;
                case "lady": return lady(a) ? ladyIs(a, b) : BAD;
                case "pass":
                    if (a < 1 || a > 24) {
                        return BAD;
                    }
                    if (night.minute > 999 - a) {
                        return NO;
                    }
                    act(night.after(a));
                    return 10000 + night.had;
                case "pin": return pin(a, b);
                case "lend": return lend(a, b);
                case "undo":
                    if (undo.isEmpty()) {
                        return NO;
                    }
                    night = undo.pop();
                    return undo.size();
                case "note":
                    if (a < 0 || a > 39 || Math.abs((long) b) > 20) {
                        return BAD;
                    }
                    if (notes.size() == 8) {
                        return FULL;
                    }
                    notes.add(new int[] {a, b});
                    return notes.size();
                case "forget": {
                    int were = notes.size();
                    notes.clear();
                    return were;
                }
                case "keep":
                    if (kept.size() == 2) {
                        return FULL;
                    }
                    kept.push(night);
                    return kept.size();
                case "back":
                    if (kept.isEmpty()) {
                        return NO;
                    }
                    night = kept.pop();
                    undo.clear();
                    return kept.size();
                case "count": return count(a);
                default: return asked(call, a, b, c, d);
            }
        }

        int asked(String call, int a, int b, int c, int d) {
            switch (call) {
                case "behind": {
                    if (a < 0 || a > 60 || b < 0 || b > 1) {
                        return BAD;
                    }
                    Night n = night.after(a);
                    return b == 0 ? 10000 + n.had : n.bits(g -> n.things.get(g).isOn());
                }
                case "dull":
                    for (int k = 0; k <= 60; k++) {
                        if (night.after(k).begun().worthNow() < 0) {
                            return k;
                        }
                    }
                    return NONE;
                case "quiet": {
                    StringBuilder line = new StringBuilder();
                    Night n = night;
                    for (int k = 0; k < 60; k++, n = n.next()) {
                        line.append(n.begun().onNow().isEmpty() ? '.' : ' ');
                    }
                    return Arrays.stream(line.toString().split(" ")).mapToInt(String::length).max().orElse(0);
                }
                case "stop": return stop(a, b);
                case "best": return a < 0 || a > 1 ? BAD : best(a);
                case "both": return a < 0 || a > 1 ? BAD : both(a);
                case "never": return a < 0 || a > 1 ? BAD : never(a);
                case "waning": return a < 0 || a > 1 ? BAD : waning(a);
                case "kinds": return thing(a) ? kinds(night.things.get(a)) : BAD;
                case "late": return late(a, b, c, d);
                case "season": return season(a, b, c);
                default: throw new IllegalStateException(call);
            }
        }

        int lay() {
            Night n = read(text, new int[1]);
            if (n == null || n.things.isEmpty()) {
                return NO;
            }
            night = n;
            undo.clear();
            kept.clear();
            notes.clear();
            return n.things.size();
        }

        int going(int g, int what) {
            Thing t = night.things.get(g);
            switch (what) {
                case 0: return t.kind;
                case 1: return t.interest;
                case 2: return t.wane;
                case 3: return t.length;
                case 4: return night.stateOf(g);
                case 5: return t.began != null ? t.began : t.due != null ? t.due : NONE;
                case 6: return t.isOn() ? 20 + night.worthNow(g) : 20;
                default: return BAD;
            }
        }

        int ladyIs(int l, int what) {
            switch (what) {
                case 0: return night.pins[l];
                case 1: return night.reached.get(l).stream().mapToInt(k -> 1 << k).sum();
                case 2: return night.bits(g -> night.could(l, g));
                default: return BAD;
            }
        }

        int pin(int l, int g) {
            if (!lady(l) || !thing(g)) {
                return BAD;
            }
            if (!night.could(l, g)) {
                return NO;
            }
            act(night.pinned(g));
            return --night.pins[l];
        }

        int lend(int l, int m) {
            if (!lady(l) || !lady(m) || l == m) {
                return BAD;
            }
            if (night.pins[l] == 0) {
                return NO;
            }
            if (night.pins[m] == 9) {
                return FULL;
            }
            act(night.copy());
            night.pins[l]--;
            return ++night.pins[m];
        }

        int told(int[] top, int what) {
            return top == null ? NONE : what == 0 ? top[0] : 10000 + top[1];
        }

        /** The first pair of the most had; above what is told, if it is. */
        int[] top(List<int[]> all, Integer above) {
            int[] top = null;
            for (int[] one : all) {
                if ((above == null || one[1] > above) && (top == null || one[1] > top[1])) {
                    top = one;
                }
            }
            return top;
        }

        int stop(int g, int what) {
            if (!thing(g) || what < 0 || what > 1) {
                return BAD;
            }
            if (night.stateOf(g) > 1) {
                return NO;
            }
            List<int[]> all = new ArrayList<>();
            for (int from = 0; from <= 40; from++) {
                Night n = night;
                for (int k = 0; k < 60; k++) {
                    n = (k >= from && n.things.get(g).isOn() ? n.pinned(g) : n).next();
                }
                all.add(new int[] {from, n.had});
            }
            return told(top(all, night.after(60).had), what);
        }

        int best(int what) {
            List<int[]> all = new ArrayList<>();
            for (int l = 0; l < night.pins.length; l++) {
                for (int g = 0; g < night.things.size(); g++) {
                    if (night.could(l, g)) {
                        all.add(new int[] {10 * l + g, night.pinned(g).after(60).had});
                    }
                }
            }
            return told(top(all, night.after(60).had), what);
        }

        int both(int what) {
            List<int[]> all = new ArrayList<>();
            for (int which = 0; which < 70; which++) {
                int g = which / 10;
                int h = which % 10;
                if (g < h && thing(h) && night.things.get(g).isOn() && night.things.get(h).isOn()) {
                    all.add(new int[] {which, night.pinned(h, g).after(60).had});
                }
            }
            return told(top(all, null), what);
        }

        int never(int what) {
            List<int[]> all = new ArrayList<>();
            for (int g = 0; g < night.things.size(); g++) {
                if (night.things.get(g).isToCome()) {
                    Night n = night.copy();
                    n.things.get(g).barred = true;
                    all.add(new int[] {g, n.after(60).had});
                }
            }
            return told(top(all, night.after(60).had), what);
        }

        boolean noted(int kind, int interest, int wane) {
            return notes.stream().allMatch(n -> worthOf(kind, interest, wane, n[0]) == n[1]);
        }

        int waning(int what) {
            List<Integer> all = new ArrayList<>();
            for (int i = 0; i < 21 * 6; i++) {
                if (noted(0, i / 6, i % 6)) {
                    all.add(i / 6 * 10 + i % 6);
                }
            }
            return what == 0 ? all.size() : all.isEmpty() ? NONE : all.get(0);
        }

        int kinds(Thing t) {
            int bits = 0;
            for (int kind = 3; kind >= 0; kind--) {
                bits = 2 * bits + (noted(kind, t.interest, t.wane) ? 1 : 0);
            }
            return bits;
        }

        /** Of all tens of each one that may be late, how many are so: counted down one thing after the other. */
        long ways(Night n, int g, int t, int x, int h) {
            if (g == n.things.size()) {
                return n.after(60).had >= h ? 1 : 0;
            }
            Thing thing = n.things.get(g);
            if (!thing.isToCome() || thing.due == null || thing.due - n.minute > 8) {
                return ways(n, g + 1, t, x, h);
            }
            Night later = n.copy();
            later.things.get(g).due += t;
            return (10 - x) * ways(n, g + 1, t, x, h) + (x == 0 ? 0 : x * ways(later, g + 1, t, x, h));
        }

        int late(int t, int x, int h, int part) {
            if (t < 1 || t > 20 || x < 0 || x > 10 || h < 0 || h > 999 || part < 0 || part > 1) {
                return BAD;
            }
            long above = ways(night, 0, t, x, h);
            long below = ways(night, 0, t, x, -1000000);
            for (long by = 2; by <= 5; by += 3) {
                while (above % by == 0 && below % by == 0) {
                    above /= by;
                    below /= by;
                }
            }
            for (long by = 3; by <= below; by += 2) {
                while (above % by == 0 && below % by == 0) {
                    above /= by;
                    below /= by;
                }
                if (by > 2000) {
                    break;
                }
            }
            return (int) (part == 0 ? above : below);
        }

        int season(int z, int n, int what) {
            if (z < 0 || z > 9999 || n < 1 || n > 60 || what < 0 || what > 1) {
                return BAD;
            }
            Night s = night;
            int ladies = s.pins.length;
            for (int k = 0; k < n; k++) {
                long x = (7919L * z + 6151L * k + 1) % 65521;
                int draw = (int) (x * x % 65521);
                if (ladies > 0) {
                    int l = draw / 8 % ladies;
                    int g = draw / 64 % s.things.size();
                    int m = draw / 64 % ladies;
                    if (draw % 8 < 2 && s.could(l, g)) {
                        s = s.pinned(g);
                        s.pins[l]--;
                    } else if (draw % 8 == 2 && l != m && s.pins[l] > 0 && s.pins[m] < 9) {
                        s = s.copy();
                        s.pins[l]--;
                        s.pins[m]++;
                    }
                }
                s = s.next();
            }
            return what == 0 ? 10000 + s.had : Arrays.stream(s.pins).sum();
        }

        int count(int what) {
            switch (what) {
                case 0: return night.things.size();
                case 1: return night.pins.length;
                case 2: return night.minute;
                case 3: case 4: case 5: case 6:
                    return Integer.bitCount(night.bits(g -> night.stateOf(g) == what - 3));
                case 7: return 10000 + night.had;
                case 8: return Arrays.stream(night.pins).sum();
                case 9: return notes.size();
                case 10: return undo.size();
                case 11: return kept.size();
                case 12: return text.length();
                default: return BAD;
            }
        }
    }

    private static long seed = 20261119;

    /** From 0 to below most, always the same row of them. */
    private static int drawn(int most) {
        seed = seed * 6364136223846793005L + 1442695040888963407L;
        return (int) ((seed >>> 33) % most);
    }

    private static String drawnText() {
        StringBuilder s = new StringBuilder();
        int things = 1 + drawn(7);
        int reach = drawn(3) == 0 ? 61 : 12;
        for (int i = 0; i < things; i++) {
            int begins = drawn(3) == 0 ? 99 : drawn(reach);
            s.append('g').append(drawn(4)).append(',').append(begins).append(',').append(drawn(21)).append(',')
                .append(drawn(6)).append(',').append(1 + drawn(drawn(2) == 0 ? 8 : 40)).append(';');
        }
        for (int i = drawn(7); i > 0 && things > 1; i--) {
            int a = drawn(things);
            s.append('f').append(a).append(',').append((a + 1 + drawn(things - 1)) % things).append(',')
                .append(drawn(21)).append(';');
        }
        for (int i = drawn(5); i > 0; i--) {
            s.append('l').append(drawn(10));
            int first = drawn(4);
            for (int k = drawn(4); k >= 0; k--) {
                s.append(',').append((first + k) % 4);
            }
            s.append(';');
        }
        if (drawn(5) == 0) {
            s.setCharAt(drawn(s.length()), "gfl,;0123456789 x".charAt(drawn(17)));
        }
        return s.toString();
    }

    private static final String[] OFTEN = {"pass", "pass", "pass", "pin", "pin", "pin", "lend", "undo", "going",
        "going", "lady", "behind", "dull", "quiet", "stop", "best", "best", "both", "both", "never", "note", "note",
        "forget", "waning", "kinds", "late", "season", "season", "keep", "back", "count", "count", "fault"};

    private static int real(HatPins x, String call, int a, int b, int c, int d) {
        switch (call) {
            case "write": return x.write(a);
            case "wipe": return x.wipe();
            case "fault": return x.fault();
            case "lay": return x.lay();
            case "going": return x.going(a, b);
            case "lady": return x.lady(a, b);
            case "pass": return x.pass(a);
            case "pin": return x.pin(a, b);
            case "lend": return x.lend(a, b);
            case "undo": return x.undo();
            case "behind": return x.behind(a, b);
            case "dull": return x.dull();
            case "quiet": return x.quiet();
            case "stop": return x.stop(a, b);
            case "best": return x.best(a);
            case "both": return x.both(a);
            case "never": return x.never(a);
            case "note": return x.note(a, b);
            case "forget": return x.forget();
            case "waning": return x.waning(a);
            case "kinds": return x.kinds(a);
            case "late": return x.late(a, b, c, d);
            case "season": return x.season(a, b, c);
            case "keep": return x.keep();
            case "back": return x.back();
            case "count": return x.count(a);
            default: throw new IllegalStateException(call);
        }
    }

    /** Numbers for a call, such as can be for the most part. */
    private static int[] numbersFor(String call) {
        if (drawn(40) == 0) {
            int[] wild = {-1, 7, 100, Integer.MIN_VALUE, Integer.MAX_VALUE, 10000, 3, 61};
            return new int[] {wild[drawn(8)], wild[drawn(8)], wild[drawn(8)], wild[drawn(8)]};
        }
        switch (call) {
            case "going": return new int[] {drawn(7), drawn(8), 0, 0};
            case "lady": return new int[] {drawn(5), drawn(4), 0, 0};
            case "pass": return new int[] {drawn(4) == 0 ? drawn(26) : 1 + drawn(3), 0, 0, 0};
            case "pin": return new int[] {drawn(4), drawn(7), 0, 0};
            case "lend": return new int[] {drawn(4), drawn(4), 0, 0};
            case "behind": return new int[] {drawn(62), drawn(2), 0, 0};
            case "stop": return new int[] {drawn(7), drawn(2), 0, 0};
            case "note": return new int[] {drawn(drawn(2) == 0 ? 6 : 41), drawn(42) - 21, 0, 0};
            case "late": return new int[] {1 + drawn(20), drawn(11), drawn(drawn(2) == 0 ? 300 : 1000), drawn(2)};
            case "season": return new int[] {drawn(10000), 1 + drawn(60), drawn(2), 0};
            case "count": return new int[] {drawn(14), 0, 0, 0};
            case "kinds": return new int[] {drawn(7), 0, 0, 0};
            default: return new int[] {drawn(2), 0, 0, 0};
        }
    }

    private static int wrong = 0;
    private static int calls = 0;

    private static void both(StringBuilder run, HatPins x, Model m, String call, int[] v) {
        calls++;
        int got = real(x, call, v[0], v[1], v[2], v[3]);
        int want = m.answer(call, v[0], v[1], v[2], v[3]);
        run.append(call).append(Arrays.toString(v)).append(' ').append(got).append('\n');
        if (got != want) {
            wrong++;
            if (wrong == 1) {
                System.out.println(m.text + "\n" + run + "due is " + want);
            }
        }
    }

    /** A note that is true of a plain thing, so that some stay possible. */
    private static int[] trueNote(int interest, int wane) {
        int g = drawn(12);
        return new int[] {g, worthOf(drawn(8) == 0 ? 1 : 0, interest, wane, g), 0, 0};
    }

    public static void main(String[] args) {
        for (int r = 0; r < RUNS && wrong == 0; r++) {
            HatPins x = new HatPins();
            Model m = new Model();
            StringBuilder run = new StringBuilder();
            int interest = drawn(21);
            int wane = drawn(6);
            calls = 0;
            while (calls < CALLS && wrong == 0) {
                if (calls == 0 && r % 8 != 0 || drawn(200) == 0) {
                    both(run, x, m, "wipe", new int[4]);
                    String text = drawnText();
                    for (int k = 0; k < text.length(); k++) {
                        both(run, x, m, "write", new int[] {text.charAt(k), 0, 0, 0});
                    }
                    both(run, x, m, "fault", new int[4]);
                    both(run, x, m, "lay", new int[4]);
                }
                String call = OFTEN[drawn(OFTEN.length)];
                int[] v = call.equals("note") && drawn(3) > 0 ? trueNote(interest, wane) : numbersFor(call);
                both(run, x, m, call, v);
            }
        }
        System.out.println(wrong == 0 ? "both tell the same" : "they don't tell the same");
        if (wrong != 0) {
            System.exit(1);
        }
    }
}
