import java.util.List;
import java.util.function.ToIntFunction;

/** The bounds that Promise 1 to Promise 27 name: the last that can be, the first that can't, what is refused. */
public final class CallBounds extends Sentences {
    /** Pinned, over, on twice, to come twice; a lady with 9 pins, one with none; more undone than can be; all kept. */
    private static final String TEXT = "g0,0,9,1,20;g1,1,6,2,15;g2,99,2,1,12;g3,4,5,1,30;g0,50,4,3,10;g0,0,1,0,1;"
        + "f0,2,9;f1,4,5;l3,0,1;l9,1,3;l0,2,3;";

    public static void main(String[] args) {
        newObject();
        write();
        wipe();
        fault();
        lay();
        going();
        lady();
        pass();
        pin();
        lend();
        undo();
        behind();
        dull();
        quiet();
        stop();
        best();
        both();
        never();
        note();
        forget();
        waning();
        kinds();
        late();
        season();
        keep();
        back();
        count();
        eachBoundIsQuoted("## Promise 1:", "## Not promised");
        end("the bounds of the calls are kept");
    }

    private static void busy(HatPins x) {
        written(x, TEXT).lay();
        x.note(0, 9);
        x.note(2, 7);
        x.pass(2);
        x.lend(1, 2);
        x.keep();
        x.lend(2, 1);
        x.pass(1);
        x.pin(0, 0);
        x.lend(0, 2);
        x.lend(2, 0);
        x.pass(1);
        x.keep();
        x.pass(1);
        x.write('g');
    }

    private static void refused(String what, ToIntFunction<HatPins> call, int answer) {
        refused(what, CallBounds::busy, call, answer);
    }

    private interface Told {
        int by(HatPins x, int what);
    }

    /** From 0 to the last one something is told, else BAD; none of it changes anything. */
    private static void whatIs(String call, int last, Told told) {
        HatPins x = after(CallBounds::busy);
        for (int what = 0; what <= last; what++) {
            due(call + " tells " + what, told.by(x, what) == BAD ? BAD : 0, 0);
        }
        for (int what : new int[] {MIN, -2, -1, last + 1, last + 2, MAX}) {
            refused(call + " tells no " + what, y -> told.by(y, what), BAD);
        }
    }

    /** What is asked changes nothing. */
    private static void asking(String call, Acts asked) {
        List<List<Integer>> are = whole(x -> {
            busy(x);
            asked.on(x);
        });
        due(call + " changes nothing", whole(CallBounds::busy).equals(are) ? 1 : 0, 1);
    }

    private static void newObject() {
        sentence("`HatPins()`: As told; THE TEXT is empty.");
        HatPins x = new HatPins();
        due("its text is empty", x.count(12), 0);
        due("it has no fault", x.fault(), NONE);
        due("nor is there anything to lay", x.lay(), NO);
        due("nor to wipe", x.wipe(), 0);
        due("the first letter", x.write('g'), 1);
        int[] counts = {5, 3, 0, 5, 0, 0, 0, 10000, 6, 0, 0, 0, 0};
        for (int what = 0; what < counts.length; what++) {
            due("count " + what, new HatPins().count(what), counts[what]);
        }
        HatPins other = new HatPins();
        x.pass(9);
        due("one of two is as it was", other.count(2), 0);
    }

    private static void write() {
        sentence("A letter (32 to 126, as in ASCII) comes behind THE TEXT: how long it is. BAD; FULL.");
        due("32", new HatPins().write(32), 1);
        due("126", new HatPins().write(126), 1);
        HatPins x = new HatPins();
        for (int letter = 32; letter <= 126; letter++) {
            due("letter " + letter, x.write(letter), letter - 31);
        }
        for (int letter : new int[] {MIN, -1, 0, 9, 10, 31, 127, 128, 233, 256 + 'g', 65536 + 'g', MAX}) {
            refused("letter " + letter, y -> y.write(letter), BAD);
        }
        Acts to199 = y -> {
            for (int i = 0; i < 199; i++) {
                y.write(i % 11 == 10 ? ';' : "g0,0,0,0,1".charAt(i % 11));
            }
        };
        due("letter 200", after(to199).write('x'), 200);
        Acts to200 = y -> {
            to199.on(y);
            y.write('x');
        };
        refused("letter 201", to200, y -> y.write('g'), FULL);
        refused("letter 201, the least", to200, y -> y.write(32), FULL);
        refused("letter 201, none", to200, y -> y.write(127), BAD);
        HatPins y = after(to200);
        y.write('g');
        y.wipe();
        due("a letter behind a full text that is wiped", y.write('g'), 1);
    }

    private static void wipe() {
        sentence("`int wipe()`: THE TEXT is empty: how long it was.");
        due("of none", new HatPins().wipe(), 0);
        due("of one", written(new HatPins(), "g").wipe(), 1);
        HatPins x = new HatPins();
        for (int i = 0; i < 201; i++) {
            x.write('g');
        }
        due("of 200", x.wipe(), 200);
        due("of none again", x.wipe(), 0);
        due("no fault is left", x.fault(), NONE);
        due("nothing is left to lay", x.lay(), NO);
        // Of what was written ahead nothing is read behind the letters that are there.
        HatPins y = written(new HatPins(), "g0,0,0,0,1;g0,0,0,0,10;");
        y.wipe();
        due("an item without its end", written(y, "g0,0,0,0,1").fault(), 0);
        due("is not laid", y.lay(), NO);
        y.write(';');
        due("with its end it is", y.lay(), 1);
        HatPins busy = after(CallBounds::busy);
        busy.wipe();
        List<Integer> want = told(after(CallBounds::busy));
        want.set(12, 0);
        want.set(want.size() - 1, NONE);
        due("all but the text is as it was", told(busy).equals(want) ? 1 : 0, 1);
    }

    private static void fault() {
        sentence("`int fault()`: FAULT. NONE.");
        due("of none", new HatPins().fault(), NONE);
        due("none", written(new HatPins(), "g0,0,0,0,1;").fault(), NONE);
        due("at the first place", written(new HatPins(), "g0,0,0,0,1").fault(), 0);
        due("behind an item", written(new HatPins(), "l0,0;g").fault(), 5);
        asking("fault", HatPins::fault);
    }

    private static void lay() {
        sentence("LAID: how many GOING-ONS; nothing NOTED, UNDONE, KEPT; THE TEXT stays. NO.");
        refused("with a fault behind", HatPins::lay, NO);
        refused("of the empty text", x -> {
            busy(x);
            x.wipe();
        }, HatPins::lay, NO);
        refused("of ladies alone", x -> {
            busy(x);
            x.wipe();
            written(x, "l9,0;l1,1;");
        }, HatPins::lay, NO);
        Acts one = x -> {
            busy(x);
            x.wipe();
            written(x, "g0,0,1,0,1;");
        };
        HatPins x = after(one);
        due("one", x.lay(), 1);
        int[] counts = {1, 0, 0, 1, 0, 0, 0, 10000, 0, 0, 0, 0, 11};
        for (int what = 0; what < counts.length; what++) {
            due("count " + what, x.count(what), counts[what]);
        }
        due("nothing is undone", x.undo(), NO);
        due("nothing is kept", x.back(), NO);
        due("nothing was noted", x.forget(), 0);
        due("laid again", x.lay(), 1);
        List<List<Integer>> anew = whole(y -> written(y, "g0,0,1,0,1;").lay());
        due("as of a new object", whole(y -> {
            one.on(y);
            y.lay();
        }).equals(anew) ? 1 : 0, 1);
        StringBuilder seven = new StringBuilder();
        for (int g = 0; g < 7; g++) {
            seven.append("g0,0,1,0,1;");
        }
        due("seven", written(new HatPins(), seven.toString()).lay(), 7);
        due("eight", written(new HatPins(), seven + "g0,0,1,0,1;").lay(), NO);
    }

    private static void going() {
        sentence("Of a GOING-ON: KIND (what = 0), I (1), W (2), L (3), 0 TO COME, 1 ON, 2 OVER, 3 PINNED (4), in which "
            + "MINUTE it is due, or began (5; NONE), its WORTH in this MINUTE, and 20 (6; not ON: 20). BAD.");
        int[][] want = {{0, 9, 1, 20, 3, 0, 20}, {1, 6, 2, 15, 1, 1, 22}, {2, 2, 1, 12, 0, 12, 20},
            {3, 5, 1, 30, 1, 4, 24}, {0, 4, 3, 10, 0, 50, 20}, {0, 1, 0, 1, 2, 0, 20}};
        HatPins x = after(CallBounds::busy);
        for (int g = 0; g < want.length; g++) {
            for (int what = 0; what <= 6; what++) {
                due("going " + g + " " + what, x.going(g, what), want[g][what]);
            }
        }
        for (int g = 0; g < want.length; g++) {
            int one = g;
            whatIs("going " + g, 6, (y, what) -> y.going(one, what));
        }
        for (int g : new int[] {MIN, -1, 6, 7, MAX}) {
            whatIsBad("going " + g, 6, (y, what) -> y.going(g, what));
        }
        due("NONE of one that is not due", laid("g0,99,9,0,9;").going(0, 5), NONE);
        due("due in 0", laid("g0,0,9,0,9;").going(0, 5), 0);
        HatPins least = passed("g0,0,0,5,40;", 24);
        due("worth -20", least.going(0, 6), 0);
        HatPins most = passed("g2,0,20,5,40;", 24);
        due("worth 40", most.going(0, 6), 60);
    }

    private static void whatIsBad(String call, int last, Told told) {
        for (int what = 0; what <= last; what++) {
            int one = what;
            refused(call + " " + what, y -> told.by(y, one), BAD);
        }
    }

    private static void lady() {
        sentence("Of a LADY: PINS (what = 0), KINDS that she reaches (1; bits), what she could PIN now (2; bits). BAD.");
        int[][] want = {{2, 3, 2}, {9, 10, 10}, {0, 12, 0}};
        HatPins x = after(CallBounds::busy);
        for (int l = 0; l < want.length; l++) {
            int one = l;
            for (int what = 0; what <= 2; what++) {
                due("lady " + l + " " + what, x.lady(l, what), want[l][what]);
            }
            whatIs("lady " + l, 2, (y, what) -> y.lady(one, what));
        }
        for (int l : new int[] {MIN, -1, 3, 4, MAX}) {
            whatIsBad("lady " + l, 2, (y, what) -> y.lady(l, what));
        }
        String seven = "g0,0,1,0,9;g0,0,1,0,9;g0,0,1,0,9;g0,0,1,0,9;g0,0,1,0,9;g0,0,1,0,9;g0,0,1,0,9;";
        due("all seven", passed(seven + "l1,0;", 1).lady(0, 2), 127);
        due("none, as none is on", laid(seven + "l1,0;").lady(0, 2), 0);
        due("none, as all are over", passed(seven + "l1,0;", 9).lady(0, 2), 0);
        due("none, as she has no pin", passed(seven + "l0,0;", 1).lady(0, 2), 0);
        due("none, as she reaches none", passed(seven + "l9,1,2,3;", 1).lady(0, 2), 0);
    }

    private static void pass() {
        sentence("n MINUTES (1 to 24) go by: how much is HAD. BAD; NO: beyond 999.");
        due("1", laid("g0,0,1,0,40;").pass(1), 10001);
        due("24", laid("g0,0,1,0,40;").pass(24), 10024);
        due("24 are 24", passed("g0,0,1,0,40;", 24).count(2), 24);
        for (int n : new int[] {MIN, -24, -1, 0, 25, 60, MAX}) {
            refused("pass " + n, y -> y.pass(n), BAD);
        }
        Acts to990 = x -> {
            for (int i = 0; i < 41; i++) {
                x.pass(24);
            }
            x.pass(6);
        };
        due("990 and 9", after(to990).pass(9) >= 0 ? 1 : 0, 1);
        for (int n = 10; n <= 24; n++) {
            int many = n;
            due("990 and " + n, after(to990).pass(many), NO);
        }
        refused("990 and 10", to990, x -> x.pass(10), NO);
        Acts to999 = x -> {
            to990.on(x);
            x.pass(9);
        };
        refused("999 and 1", to999, x -> x.pass(1), NO);
        refused("999 and 24", to999, x -> x.pass(24), NO);
        refused("999 and 0", to999, x -> x.pass(0), BAD);
        refused("999 and 25", to999, x -> x.pass(25), BAD);
        refused("999 and the most", to999, x -> x.pass(MAX), BAD);
    }

    private static void pin() {
        sentence("`int pin(int l, int g)`: PINNED: how many PINS she has. BAD; NO.");
        due("two left, one less", after(CallBounds::busy).pin(0, 1), 1);
        due("eight of nine left", after(CallBounds::busy).pin(1, 3), 8);
        due("none of one left", passed("g0,0,1,0,9;l1,0;", 1).pin(0, 0), 0);
        for (int l : new int[] {MIN, -1, 3, 4, MAX}) {
            refused("pin by " + l, x -> x.pin(l, 1), BAD);
        }
        for (int g : new int[] {MIN, -1, 6, 7, MAX}) {
            refused("pin of " + g, x -> x.pin(0, g), BAD);
        }
        refused("neither is told", x -> x.pin(3, 6), BAD);
        refused("pinned already", x -> x.pin(0, 0), NO);
        refused("to come", x -> x.pin(0, 4), NO);
        refused("over", x -> x.pin(0, 5), NO);
        refused("not reached", x -> x.pin(0, 3), NO);
        refused("reached, but no pin", x -> x.pin(2, 3), NO);
        refused("no pin, not reached, to come", x -> x.pin(2, 4), NO);
    }

    private static void lend() {
        sentence("She lends a PIN: how many the other one has. BAD (alike, too); NO: she has none; "
            + "FULL: the other one has 9.");
        due("the first", after(CallBounds::busy).lend(0, 2), 1);
        due("of nine", after(CallBounds::busy).lend(1, 2), 1);
        due("the ninth", laid("g0,0,1,0,9;l1,0;l8,0;").lend(0, 1), 9);
        for (int l = 0; l <= 2; l++) {
            int one = l;
            refused("alike " + l, x -> x.lend(one, one), BAD);
        }
        for (int l : new int[] {MIN, -1, 3, 4, MAX}) {
            refused("alike, none " + l, x -> x.lend(l, l), BAD);
            refused("by " + l, x -> x.lend(l, 0), BAD);
            refused("to " + l, x -> x.lend(0, l), BAD);
            refused("to " + l + " by one that has none", x -> x.lend(2, l), BAD);
        }
        refused("she has none", x -> x.lend(2, 0), NO);
        refused("she has none, the other one has 9", x -> x.lend(2, 1), NO);
        refused("the other one has 9", x -> x.lend(0, 1), FULL);
    }

    private static void undo() {
        sentence("`int undo()`: UNDONE: how many more can be. NO.");
        HatPins x = after(CallBounds::busy);
        for (int left = 7; left >= 0; left--) {
            due("undone", x.undo(), left);
        }
        due("none is left", x.undo(), NO);
        due("two minutes stay", x.count(2), 2);
        due("notes stay", x.count(9), 2);
        due("what is kept stays", x.count(11), 2);
        refused("of a new object", y -> { }, HatPins::undo, NO);
        refused("when all are undone", y -> {
            busy(y);
            for (int i = 0; i < 8; i++) {
                y.undo();
            }
        }, HatPins::undo, NO);
        refused("behind lay", y -> {
            busy(y);
            y.wipe();
            written(y, TEXT).lay();
        }, HatPins::undo, NO);
        refused("behind back", y -> {
            busy(y);
            y.back();
        }, HatPins::undo, NO);
        refused("of what is no act", y -> {
            y.write('g');
            y.note(1, 1);
            y.forget();
            y.keep();
            y.season(1, 60, 0);
            y.wipe();
        }, HatPins::undo, NO);
        // Each as it was ahead of it.
        List<Integer> ahead = told(after(CallBounds::busy));
        Acts[] acts = {y -> y.pass(24), y -> y.pin(0, 1), y -> y.lend(1, 0)};
        for (Acts act : acts) {
            HatPins z = after(CallBounds::busy);
            act.on(z);
            due("undone at once", z.undo(), 7);
            List<Integer> is = told(z);
            is.set(10, 8);
            due("as it was", is.equals(ahead) ? 1 : 0, 1);
        }
    }

    private static void behind() {
        sentence("`int behind(int n, int what)`: BEHIND: HAD (what = 0), ON (1; bits). BAD.");
        HatPins x = after(CallBounds::busy);
        due("0 had", x.behind(0, 0), x.count(7));
        due("0 on", x.behind(0, 1), 2 + 8);
        due("60 on", x.behind(60, 1), 0);
        whatIs("behind 0", 1, (y, what) -> y.behind(0, what));
        whatIs("behind 60", 1, (y, what) -> y.behind(60, what));
        for (int n : new int[] {MIN, -1, 61, MAX}) {
            whatIsBad("behind " + n, 1, (y, what) -> y.behind(n, what));
        }
        asking("behind", y -> {
            y.behind(60, 0);
            y.behind(30, 1);
        });
    }

    private static void dull() {
        sentence("`int dull()`: DULL. NONE.");
        due("0", passed("g0,0,0,1,9;", 1).dull(), 0);
        due("60", laid("g0,59,0,1,9;").dull(), 60);
        due("none", laid("g0,60,0,1,9;").dull(), NONE);
        due("none when all is over", passed("g0,0,0,1,9;", 9).dull(), NONE);
        asking("dull", HatPins::dull);
    }

    private static void quiet() {
        sentence("`int quiet()`: QUIET.");
        due("0", laid("g0,0,0,1,40;g0,40,0,1,20;").quiet(), 0);
        due("60", passed("g0,0,0,1,9;", 9).quiet(), 60);
        asking("quiet", HatPins::quiet);
    }

    private static void stop() {
        sentence("STOP: MINUTES (what = 0), HAD (1). NONE; BAD; NO: it is OVER, PINNED.");
        whatIs("stop of one that is on", 1, (y, what) -> y.stop(1, what));
        whatIs("stop of one to come", 1, (y, what) -> y.stop(4, what));
        for (int g : new int[] {MIN, -1, 6, 7, MAX}) {
            whatIsBad("stop of " + g, 1, (y, what) -> y.stop(g, what));
        }
        for (int what = 0; what <= 1; what++) {
            int one = what;
            refused("it is pinned", x -> x.stop(0, one), NO);
            refused("it is over", x -> x.stop(5, one), NO);
            refused("no better than never", x -> x.stop(3, one), NONE);
            due("not due", laid("g0,99,0,5,9;").stop(0, what), NONE);
        }
        due("0", passed("g0,0,0,1,9;", 1).stop(0, 0), 0);
        due("40", laid("g0,38,3,1,20;").stop(0, 0), 40);
        asking("stop", y -> {
            y.stop(1, 0);
            y.stop(4, 1);
        });
    }

    private static void best() {
        sentence("BEST: who what (what = 0), HAD (1). NONE; BAD.");
        whatIs("best", 1, HatPins::best);
        for (int what = 0; what <= 1; what++) {
            due("there is none of a new object", new HatPins().best(what), NONE);
            due("no lady", passed("g0,0,0,5,9;", 1).best(what), NONE);
        }
        due("no lady, no what", passed("g0,0,0,5,9;", 1).best(2), BAD);
        asking("best", y -> {
            y.best(0);
            y.best(1);
        });
    }

    private static void both() {
        sentence("BOTH: which (what = 0), HAD (1). NONE: there are not two; BAD.");
        whatIs("both", 1, HatPins::both);
        for (int what = 0; what <= 1; what++) {
            due("none is on", new HatPins().both(what), NONE);
            due("one is on", passed("g0,0,0,5,9;g0,1,0,5,9;", 1).both(what), NONE);
            due("two are on", passed("g0,0,0,5,9;g0,1,0,5,9;", 2).both(what), what == 0 ? 1 : 9995);
            due("one is on, one over", passed("g0,0,0,5,1;g0,0,0,5,9;", 1).both(what), NONE);
        }
        asking("both", y -> {
            y.both(0);
            y.both(1);
        });
    }

    private static void never() {
        sentence("NEVER: which (what = 0), HAD (1). NONE; BAD.");
        whatIs("never", 1, HatPins::never);
        HatPins x = after(CallBounds::busy);
        due("one to come", x.never(0), 4);
        for (int what = 0; what <= 1; what++) {
            due("none is to come", passed("g0,0,0,5,9;", 1).never(what), NONE);
            due("none is better", laid("g0,0,0,0,9;").never(what), NONE);
        }
        asking("never", y -> {
            y.never(0);
            y.never(1);
        });
    }

    private static void note() {
        sentence("`int note(int g, int v)`: NOTED: how many. BAD; FULL.");
        due("the first minute, the least", new HatPins().note(0, -20), 1);
        due("the last minute, the most", new HatPins().note(39, 20), 1);
        due("the third", after(CallBounds::busy).note(39, -20), 3);
        int[][] unfit = {{-1, 0}, {40, 0}, {0, -21}, {0, 21}, {-1, 21}, {MIN, MIN}, {MAX, MAX}};
        for (int[] n : unfit) {
            refused("note " + n[0] + " " + n[1], x -> x.note(n[0], n[1]), BAD);
        }
        Acts eight = x -> {
            busy(x);
            for (int g = 3; g <= 8; g++) {
                due("note " + g, x.note(g, 9 - g), g);
            }
        };
        refused("a ninth", eight, x -> x.note(0, 9), FULL);
        refused("a ninth that can't be", eight, x -> x.note(40, 9), BAD);
        HatPins x = after(eight);
        x.forget();
        due("one behind eight that are forgotten", x.note(0, 9), 1);
    }

    private static void forget() {
        sentence("`int forget()`: Nothing is NOTED: how many were.");
        due("none", new HatPins().forget(), 0);
        HatPins x = after(CallBounds::busy);
        due("two", x.forget(), 2);
        due("none again", x.forget(), 0);
        due("all are so", x.waning(0), 126);
        due("of any kind", x.kinds(0), 15);
        HatPins y = new HatPins();
        for (int g = 0; g < 9; g++) {
            y.note(g, 0);
        }
        due("eight", y.forget(), 8);
        due("acts stay", x.count(10), 8);
        due("what is kept stays", x.count(11), 2);
    }

    private static void waning() {
        sentence("WANING: how many (what = 0), the first (1; NONE). BAD.");
        whatIs("waning", 1, HatPins::waning);
        HatPins x = after(CallBounds::busy);
        due("one", x.waning(0), 1);
        due("the first", x.waning(1), 91);
        x.note(2, 8);
        due("none", x.waning(0), 0);
        due("no first", x.waning(1), NONE);
        due("no first, no what", x.waning(2), BAD);
        due("all", new HatPins().waning(0), 126);
        due("the first of all", new HatPins().waning(1), 0);
        asking("waning", y -> {
            y.waning(0);
            y.waning(1);
        });
    }

    private static void kinds() {
        sentence("`int kinds(int g)`: KINDS, as bits. BAD.");
        HatPins x = after(CallBounds::busy);
        due("plain, flat", x.kinds(0), 9);
        due("none", x.kinds(1), 0);
        due("none by the last", x.kinds(5), 0);
        due("all", new HatPins().kinds(0), 15);
        for (int g : new int[] {MIN, -1, 6, 7, MAX}) {
            refused("kinds of " + g, y -> y.kinds(g), BAD);
        }
        asking("kinds", y -> y.kinds(0));
    }

    private static void late() {
        sentence("LATE: above (part = 0), below (1). BAD.");
        whatIs("late", 1, (y, part) -> y.late(5, 5, 50, part));
        int[][] fit = {{1, 5, 50}, {20, 5, 50}, {5, 0, 50}, {5, 10, 50}, {5, 5, 0}, {5, 5, 999}, {20, 10, 999}, {1, 0, 0}};
        for (int[] n : fit) {
            HatPins x = after(CallBounds::busy);
            due("can be late", x.late(n[0], n[1], n[2], 0) >= 0 ? 1 : 0, 1);
            due("below is above 0", x.late(n[0], n[1], n[2], 1) >= 1 ? 1 : 0, 1);
        }
        int[][] unfit = {{0, 5, 50}, {21, 5, 50}, {5, -1, 50}, {5, 11, 50}, {5, 5, -1}, {5, 5, 1000}, {MIN, 5, 50},
            {MAX, 5, 50}, {5, MIN, 50}, {5, MAX, 50}, {5, 5, MIN}, {5, 5, MAX}};
        for (int[] n : unfit) {
            refused("late above", x -> x.late(n[0], n[1], n[2], 0), BAD);
            refused("late below", x -> x.late(n[0], n[1], n[2], 1), BAD);
        }
        due("0 of 1", new HatPins().late(1, 5, 999, 0), 0);
        due("of 1", new HatPins().late(1, 5, 999, 1), 1);
        asking("late", y -> y.late(20, 5, 50, 0));
    }

    private static void season() {
        sentence("A SEASON: HAD (what = 0), PINS (1). BAD.");
        whatIs("season", 1, (y, what) -> y.season(9999, 60, what));
        int[][] unfit = {{-1, 5}, {10000, 5}, {5, 0}, {5, 61}, {MIN, 5}, {MAX, 5}, {5, MIN}, {5, MAX}};
        for (int[] n : unfit) {
            whatIsBad("season " + n[0] + " " + n[1], 1, (y, what) -> y.season(n[0], n[1], what));
        }
        int[][] fit = {{0, 5}, {9999, 5}, {5, 1}, {5, 60}};
        for (int[] n : fit) {
            HatPins x = after(CallBounds::busy);
            due("can be had", x.season(n[0], n[1], 0) >= 0 ? 1 : 0, 1);
            due("no more pins than there are", x.season(n[0], n[1], 1) <= x.count(8) ? 1 : 0, 1);
        }
        due("no lady, no pins", laid("g0,0,1,0,9;").season(5, 60, 1), 0);
        asking("season", y -> y.season(5, 60, 0));
    }

    private static void keep() {
        sentence("`int keep()`: KEPT: how many. FULL.");
        HatPins x = new HatPins();
        due("one", x.keep(), 1);
        due("two alike", x.keep(), 2);
        due("no third", x.keep(), FULL);
        refused("a third", HatPins::keep, FULL);
        x.back();
        due("a second again", x.keep(), 2);
        HatPins y = after(CallBounds::busy);
        y.wipe();
        written(y, TEXT).lay();
        due("one behind lay", y.keep(), 1);
        due("acts can be undone behind it", after(CallBounds::busy).undo(), 7);
    }

    private static void back() {
        sentence("As KEPT last (it is KEPT no more then): how many are left; nothing is UNDONE then. NO.");
        HatPins x = after(CallBounds::busy);
        due("one is left", x.back(), 1);
        due("minute of the last", x.count(2), 4);
        due("pins of the last", x.lady(2, 0), 0);
        due("nothing can be undone", x.count(10), 0);
        due("nothing is undone", x.undo(), NO);
        due("none is left", x.back(), 0);
        due("minute of the first", x.count(2), 2);
        due("pins of the first", x.lady(2, 0), 1);
        due("no more", x.back(), NO);
        refused("of a new object", y -> { }, HatPins::back, NO);
        refused("when none is left", y -> {
            busy(y);
            y.back();
            y.back();
            y.pass(3);
        }, HatPins::back, NO);
        refused("behind lay", y -> {
            busy(y);
            y.wipe();
            written(y, TEXT).lay();
            y.pass(3);
        }, HatPins::back, NO);
    }

    private static void count() {
        sentence("How many: 0 GOING-ONS, 1 LADIES, 2 MINUTES gone by (so which is next), 3 TO COME, 4 ON, 5 OVER, 6 PINNED, "
            + "7 HAD, 8 PINS, 9 NOTED, 10 that can be UNDONE, 11 KEPT, 12 letters of THE TEXT. BAD.");
        whatIs("count", 12, HatPins::count);
        int[] want = {6, 3, 5, 2, 2, 1, 1, 10000 + 24 + 1 + 6 + 6 + 4 + 4 + 5, 11, 2, 8, 2, TEXT.length() + 1};
        HatPins x = after(CallBounds::busy);
        for (int what = 0; what < want.length; what++) {
            due("count " + what, x.count(what), want[what]);
        }
        asking("count", y -> y.count(7));
    }
}
