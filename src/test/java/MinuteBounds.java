import java.util.Arrays;

/** The bounds that part 2 of the Terms names: of worth, of minutes, of what follows, of pins, of what can be undone. */
public final class MinuteBounds extends Sentences {
    public static void main(String[] args) {
        atFirst();
        firstMinute();
        plain();
        slow();
        rising();
        flat();
        leastWorth();
        dueIsOn();
        isOver();
        inThisOrder();
        minutes();
        behindNext();
        sooner();
        onlyToCome();
        aPin();
        nineOfEach();
        undone();
        eachWordIsQuoted("======== 2 ", "======== 3 ");
        end("the bounds of minutes are kept");
    }

    private static void atFirst() {
        sentence("At first each GOING-ON is TO COME, due in MINUTE B (99: none), MINUTE 0 is next, nothing was HAD (0).");
        HatPins x = laid("g0,0,9,0,5;g0,60,9,0,5;g0,99,9,0,5;");
        int[] due = {0, 60, NONE};
        for (int g = 0; g < 3; g++) {
            due("to come " + g, x.going(g, 4), 0);
            due("due " + g, x.going(g, 5), due[g]);
        }
        due("all are to come", x.count(3), 3);
        due("none is on", x.count(4) + x.count(5) + x.count(6), 0);
        due("minute 0 is next", x.count(2), 0);
        due("nothing was had", x.count(7), 10000);
        due("B 0 is had in minute 0", x.pass(1), 10009);
        HatPins y = passed("g0,99,9,0,5;g0,60,9,0,5;", 24, 24, 12);
        due("B 60 not ahead of 60", y.count(7), 10000);
        due("B 60 in 60", y.pass(1), 10009);
        for (int i = 0; i < 39; i++) {
            y.pass(24);
        }
        due("B 99 in none", y.count(7), 10045);
        due("B 99 to come for good", y.going(0, 4), 0);
    }

    /** What is had in each minute of one that begins in 0, as pass tells it, and its worth as going tells it. */
    private static void worthsAre(String numbers, int from, int... want) {
        HatPins x = laid("g" + numbers + ",40;");
        int[] got = new int[want.length];
        for (int g = 0; g < from; g++) {
            x.pass(1);
        }
        for (int i = 0; i < want.length; i++) {
            if (from + i > 0) {
                due("going tells what will be had", x.going(0, 6), 20 + want[i]);
            }
            int had = x.count(7);
            got[i] = x.pass(1) - had;
        }
        if (!Arrays.equals(got, want)) {
            wrong("worths of " + numbers + " are " + Arrays.toString(got) + ", due are " + Arrays.toString(want));
        }
    }

    private static void firstMinute() {
        sentence("WORTH of one that is ON, in the g-th MINUTE of it (0 first)");
        for (int kind = 0; kind <= 3; kind++) {
            worthsAre(kind + ",0,7,5", 0, 7);
        }
        HatPins x = passed("g0,3,7,5,9;", 3);
        due("not on in the minute that is next", x.going(0, 6), 20);
        x.pass(1);
        due("its own minutes count", x.going(0, 6), 22);
    }

    private static void plain() {
        sentence("of a PLAIN one I less W times g");
        worthsAre("0,0,20,0", 0, 20, 20, 20);
        worthsAre("0,0,0,1", 0, 0, -1, -2);
        worthsAre("0,0,20,5", 3, 5, 0, -5);
        worthsAre("0,0,20,0", 39, 20);
    }

    private static void slow() {
        sentence("of a SLOW one I less W times (half of g, cut)");
        worthsAre("1,0,20,5", 0, 20, 20, 15, 15, 10, 10, 5, 5, 0, 0, -5, -5);
        worthsAre("1,0,19,1", 37, 1, 0, 0);
    }

    private static void rising() {
        sentence("of a RISING one I and W times g (40 at most)");
        worthsAre("2,0,20,5", 0, 20, 25, 30, 35, 40, 40, 40);
        worthsAre("2,0,19,5", 3, 34, 39, 40, 40);
        worthsAre("2,0,20,1", 18, 38, 39, 40, 40);
        worthsAre("2,0,1,1", 38, 39, 40);
        worthsAre("2,0,2,1", 37, 39, 40, 40);
        worthsAre("2,0,20,0", 39, 20);
    }

    private static void flat() {
        sentence("of a FLAT one as of a PLAIN one, but 0 at least");
        worthsAre("3,0,2,1", 0, 2, 1, 0, 0, 0);
        worthsAre("3,0,4,5", 0, 4, 0, 0);
        worthsAre("3,0,0,5", 38, 0, 0);
        worthsAre("3,0,20,0", 39, 20);
    }

    private static void leastWorth() {
        sentence("and -20 at least of any");
        worthsAre("0,0,0,1", 19, -19, -20, -20, -20);
        worthsAre("0,0,1,3", 6, -17, -20, -20);
        worthsAre("0,0,20,5", 7, -15, -20, -20);
        worthsAre("0,0,0,5", 39, -20);
        worthsAre("1,0,0,5", 5, -10, -15, -15, -20, -20, -20, -20);
        worthsAre("1,0,1,3", 12, -17, -17, -20, -20, -20);
        worthsAre("1,0,0,1", 38, -19, -19);
        // Of each one for itself, not of all together.
        due("three of them", passed("g0,0,0,5,40;g0,0,0,5,40;g0,0,0,5,40;", 10).pass(1),
            10000 + 3 * (-5 - 10 - 15 - 7 * 20));
    }

    private static void dueIsOn() {
        sentence("what is TO COME and due in it, or was due ahead of it, is ON");
        HatPins x = laid("g0,2,9,0,5;g0,3,1,0,5;");
        due("none is due", x.pass(2), 10000);
        due("due in 2", x.going(0, 4), 0);
        due("in 2", x.pass(1), 10009);
        due("due in 2", x.going(0, 4), 1);
        due("due in 3", x.going(1, 4), 0);
        due("in 3", x.pass(1), 10019);
        due("due in 3", x.going(1, 4), 1);
        due("began in 3", x.going(1, 5), 3);
    }

    private static void isOver() {
        sentence("what was ON for L MINUTES with this one, 0 first, is OVER");
        HatPins one = passed("g0,4,9,0,1;", 5);
        due("one minute long, over as it goes by", one.going(0, 4), 2);
        due("it was had", one.count(7), 10009);
        due("once", one.pass(1), 10009);
        HatPins two = passed("g0,4,9,0,2;", 5);
        due("two minutes long", two.going(0, 4), 1);
        due("it is had twice", two.pass(1), 10018);
        due("over then", two.going(0, 4), 2);
        HatPins forty = passed("g0,0,1,0,40;", 24, 15);
        due("39 of 40", forty.going(0, 4), 1);
        due("40 of 40", forty.pass(1), 10040);
        due("over then", forty.going(0, 4), 2);
        due("no more is had", forty.pass(1), 10040);
        HatPins all = passed("g0,0,1,0,3;g1,1,1,0,2;g2,2,1,0,1;g3,0,1,0,4;", 3);
        due("three at one time", all.count(5), 3);
    }

    private static void inThisOrder() {
        sentence("In a MINUTE, in this order: what is TO COME and due in it, or was due ahead of it, is ON; "
            + "HAD is more by WORTH of all that is ON; what was ON for L MINUTES with this one, 0 first, is OVER. "
            + "Then it is the next MINUTE");
        HatPins one = laid("g0,0,9,0,1;");
        due("it is on, then had, then over", one.pass(1), 10009);
        due("over", one.going(0, 4), 2);
        due("then it is the next", one.count(2), 1);
        // In 2 one goes on, one is in its last minute, one in its first, one in its only one, one is pinned, one over.
        HatPins all = passed("g0,1,1,0,9;g1,0,2,0,3;g2,2,4,0,9;g3,2,8,0,1;g0,0,16,0,9;g0,0,20,0,1;l1,0;",
            2);
        due("had ahead of it", all.count(7), 10000 + (2 + 16 + 20) + (1 + 2 + 16));
        all.pin(0, 4);
        due("all that is on is had, and nothing else", all.pass(1), 10057 + 1 + 2 + 4 + 8);
        int[] state = {1, 2, 1, 2, 3, 2};
        for (int g = 0; g < state.length; g++) {
            due("state " + g, all.going(g, 4), state[g]);
        }
        // What follows one that is over in a minute is not on in that minute.
        HatPins next = laid("g0,0,1,0,2;g0,99,20,0,1;f0,1,0;");
        due("none behind, but not yet on", next.pass(2), 10002);
        due("on in the next", next.pass(1), 10022);
        due("one behind the other, each in its own minute",
            passed("g0,0,1,0,1;g0,99,2,0,1;g0,99,4,0,1;f0,1,0;f1,2,0;", 2).count(7), 10003);
    }

    private static void late998(HatPins x) {
        for (int i = 0; i < 41; i++) {
            x.pass(24);
        }
        x.pass(14);
    }

    private static void minutes() {
        sentence("Then it is the next MINUTE (999 can go by).");
        HatPins x = laid("g0,60,1,0,40;");
        late998(x);
        due("998", x.count(2), 998);
        due("the last one", x.pass(1), 10040);
        due("999", x.count(2), 999);
        due("none more", x.pass(1), NO);
        due("nor 24", x.pass(24), NO);
        HatPins y = laid("g0,60,1,0,40;");
        late998(y);
        y.undo();
        due("984", y.count(2), 984);
        due("to 1000", y.pass(16), NO);
        due("to 999", y.pass(15), 10040);
        refused("two from 998 on", z -> late998(z), z -> z.pass(2), NO);
        refused("24 from 998 on", z -> late998(z), z -> z.pass(24), NO);
        refused("one from 999 on", z -> {
            late998(z);
            z.pass(1);
        }, z -> z.pass(1), NO);
        // What comes is told beyond it.
        HatPins far = laid("g0,0,1,0,1;");
        late998(far);
        due("behind 60 minutes of them", far.behind(60, 0), 10001);
        due("quiet in all of them", far.quiet(), 60);
    }

    private static void behindNext() {
        sentence("As one is OVER, or PINNED, each that FOLLOWS it and is TO COME is due D MINUTES behind the MINUTE "
            + "that is next then "
            + "(PINNED: that is next now; of OVER ones: that behind this)");
        HatPins x = passed("g0,0,1,0,3;g0,99,1,0,1;g0,99,1,0,1;f0,1,0;f0,2,20;", 2);
        due("not over yet", x.going(1, 5), NONE);
        x.pass(1);
        due("over in 2: in 3", x.going(1, 5), 3);
        due("over in 2: 20 behind 3", x.going(2, 5), 23);
        due("not on yet", x.going(1, 4), 0);
        x.pass(1);
        due("it was on in 3", x.going(1, 4), 2);
        due("began in 3", x.going(1, 5), 3);
        HatPins y = passed("g0,0,1,0,3;g0,99,1,0,1;g0,99,1,0,1;f0,1,0;f0,2,20;l1,0;", 2);
        y.pin(0, 0);
        due("pinned ahead of 2: in 2", y.going(1, 5), 2);
        due("pinned ahead of 2: 20 behind 2", y.going(2, 5), 22);
        due("not on yet", y.going(1, 4), 0);
        due("it is had in 2", y.pass(1), 10003);
        // Due in 999 it is on in none that can go by, and due behind 99 it is due all the same.
        HatPins z = passed("g0,60,1,0,40;g0,99,1,0,40;g0,99,1,0,9;f0,1,20;f1,2,20;", 24, 24, 24, 24, 4);
        due("over in 99: 20 behind 100", z.going(1, 5), 120);
        z.pass(24);
        z.pass(24);
        z.pass(12);
        due("over in 159: 20 behind 160", z.going(2, 5), 180);
    }

    private static void sooner() {
        sentence("or as it was due, if that is sooner");
        String text = "g0,0,1,0,3;g0,7,1,0,9;g0,8,1,0,9;g0,9,1,0,9;f0,1,5;f0,2,5;f0,3,5;l1,0;";
        HatPins x = passed(text, 3);
        due("as it was", x.going(1, 5), 7);
        due("alike", x.going(2, 5), 8);
        due("sooner by one", x.going(3, 5), 8);
        HatPins y = passed(text, 2);
        y.pin(0, 0);
        due("pinned: alike", y.going(1, 5), 7);
        due("pinned: sooner by one", y.going(2, 5), 7);
        due("pinned: sooner by two", y.going(3, 5), 7);
        HatPins z = passed("g0,0,1,0,3;g0,99,1,0,9;f0,1,5;f0,1,4;f0,1,6;", 3);
        due("the soonest of several", z.going(1, 5), 7);
        HatPins w = passed("g0,0,1,0,3;g0,0,1,0,3;g0,99,1,0,9;f0,2,9;f1,2,8;", 3);
        due("of two that are over at one time", w.going(2, 5), 11);
    }

    private static void onlyToCome() {
        sentence("each that FOLLOWS it and is TO COME is due");
        HatPins x = passed("g0,0,1,0,3;g0,0,1,0,40;g0,0,1,0,1;g0,0,1,0,9;f0,1,0;f0,2,0;f0,3,0;l1,0;", 1);
        x.pin(0, 3);
        x.pass(5);
        int[] state = {2, 1, 2, 3};
        for (int g = 0; g < 4; g++) {
            due("state " + g, x.going(g, 4), state[g]);
            due("began " + g, x.going(g, 5), 0);
        }
        due("had", x.count(7), 10000 + 3 + 6 + 1 + 1);
    }

    private static final String LADIES = "g0,0,9,0,40;g1,0,9,0,40;g0,2,9,0,40;g0,0,9,0,1;l2,0;l0,0,1;l1,1;";

    private static void aPin() {
        sentence("A LADY PINS a GOING-ON that is ON, of a KIND that she reaches, if she has a PIN: "
            + "she has 1 less, it is PINNED, and ON no more.");
        Acts acts = x -> {
            written(x, LADIES).lay();
            x.pass(1);
        };
        refused("of a kind that she does not reach", acts, x -> x.pin(0, 1), NO);
        refused("to come", acts, x -> x.pin(0, 2), NO);
        refused("over", acts, x -> x.pin(0, 3), NO);
        refused("no pin", acts, x -> x.pin(1, 0), NO);
        HatPins x = after(acts);
        due("one less", x.pin(0, 0), 1);
        due("pinned", x.going(0, 4), 3);
        due("on no more", x.behind(0, 1), 2);
        due("the last one", x.pin(2, 1), 0);
        x.pass(2);
        due("the second of two", x.pin(0, 2), 0);
        refused("pinned already", y -> {
            acts.on(y);
            y.pin(0, 0);
        }, y -> y.pin(0, 0), NO);
        refused("none of two is left", y -> {
            acts.on(y);
            y.pin(0, 0);
            y.pass(2);
            y.pin(0, 2);
            y.lend(2, 1);
            y.undo();
        }, y -> y.pin(0, 1), NO);
    }

    private static void nineOfEach() {
        sentence("She lends a PIN to another LADY (9 of each at most).");
        Acts acts = x -> written(x, "g0,0,9,0,40;l9,0;l8,1;l0,2;l1,3;").lay();
        due("the ninth", after(acts).lend(0, 1), 9);
        refused("a tenth", acts, x -> x.lend(1, 0), FULL);
        refused("a tenth of the last pin", acts, x -> x.lend(3, 0), FULL);
        refused("a tenth of none", acts, x -> x.lend(2, 0), NO);
        refused("of none", acts, x -> x.lend(2, 3), NO);
        refused("to herself, of nine", acts, x -> x.lend(0, 0), BAD);
        refused("to herself, of none", acts, x -> x.lend(2, 2), BAD);
        HatPins x = after(acts);
        due("the last one", x.lend(3, 2), 1);
        due("she has none", x.lady(3, 0), 0);
        due("the other has one", x.lady(2, 0), 1);
        due("none of hers", x.lend(3, 2), NO);
        due("as many in all", x.count(8), 18);
    }

    private static void undone() {
        sentence("UNDONE are the latest of these, of MINUTES (all that go by at one time are one; the last 8 can be).");
        String text = "g0,0,9,0,40;l9,0;l8,1;";
        Acts eight = x -> {
            written(x, text).lay();
            x.pass(24);
            x.pin(0, 0);
            for (int i = 0; i < 3; i++) {
                x.lend(0, 1);
                x.lend(1, 0);
            }
        };
        HatPins x = after(eight);
        due("eight can be", x.count(10), 8);
        for (int left = 7; left >= 0; left--) {
            due("undone", x.undo(), left);
        }
        due("the eighth are 24 minutes at one time", x.count(2), 0);
        due("nothing is had", x.count(7), 10000);
        due("none more", x.undo(), NO);
        HatPins y = after(eight);
        y.pass(1);
        due("eight of nine can be", y.count(10), 8);
        for (int left = 7; left >= 0; left--) {
            due("undone of nine", y.undo(), left);
        }
        due("the ninth can't be", y.undo(), NO);
        due("it stands", y.count(2), 24);
        due("what was pinned behind it does not", y.going(0, 4), 1);
        HatPins many = laid(text);
        for (int n = 1; n <= 20; n++) {
            many.pass(n);
        }
        for (int n = 19; n >= 12; n--) {
            many.undo();
            due("minutes of the first " + n + " of 20", many.count(2), n * (n + 1) / 2);
        }
        due("twelve of 20 can't be", many.undo(), NO);
        refused("none is undone of nothing", z -> { }, HatPins::undo, NO);
        refused("nor behind what can't be", z -> {
            eight.on(z);
            z.pass(1);
            for (int i = 0; i < 8; i++) {
                z.undo();
            }
        }, HatPins::undo, NO);
        HatPins z = after(eight);
        z.undo();
        z.undo();
        due("two can be again behind two undone", z.pass(1) >= 0 ? z.count(10) : NO, 7);
        z.pass(1);
        z.pass(1);
        due("eight again", z.count(10), 8);
    }
}
