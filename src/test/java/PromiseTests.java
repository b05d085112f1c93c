import java.util.Arrays;

/** At least one test for each promise, 1 to 27, by answers worked out by hand. */
public final class PromiseTests extends Checks {
    public static void main(String[] args) {
        newObject();
        write();
        wipe();
        fault();
        faultOfNumbers();
        faultOfMany();
        lay();
        going();
        worths();
        lady();
        pass();
        passFollows();
        passTo999();
        pin();
        pinFollows();
        lend();
        undo();
        behind();
        dull();
        quiet();
        stop();
        best();
        both();
        never();
        note();
        forget();
        waning();
        kinds();
        late();
        lateSoon();
        season();
        keepAndBack();
        count();
        errorsChangeNothing();
        end("the promises are kept");
    }

    private static void newObject() {
        bind("promise 1");
        HatPins x = new HatPins();
        due("BAD", HatPins.BAD, BAD);
        due("NO", HatPins.NO, NO);
        due("FULL", HatPins.FULL, FULL);
        due("NONE", HatPins.NONE, NONE);
        int[] counts = {5, 3, 0, 5, 0, 0, 0, 10000, 6, 0, 0, 0, 0};
        for (int what = 0; what < counts.length; what++) {
            due("count " + what, x.count(what), counts[what]);
        }
        int[][] goings = {{0, 9, 1, 20, 0, 0, 20}, {1, 6, 2, 15, 0, 3, 20}, {2, 2, 1, 12, 0, NONE, 20},
            {3, 5, 1, 30, 0, 10, 20}, {0, 14, 3, 10, 0, NONE, 20}};
        for (int g = 0; g < goings.length; g++) {
            for (int what = 0; what < 7; what++) {
                due("going " + g + " " + what, x.going(g, what), goings[g][what]);
            }
        }
        int[][] ladies = {{2, 3, 0}, {1, 12, 0}, {3, 1, 0}};
        for (int l = 0; l < ladies.length; l++) {
            for (int what = 0; what < 3; what++) {
                due("lady " + l + " " + what, x.lady(l, what), ladies[l][what]);
            }
        }
        // g1 is over in 17, g4 due 5 behind 18; g0 in 19, g2 due 2 behind 20; g2 in 33, g4 is long on.
        x.pass(20);
        due("g4 follows g1", x.going(4, 5), 23);
        due("g2 follows g0", x.going(2, 5), 22);
        due("fault of the empty text", x.fault(), NONE);
        due("lay of the empty text", x.lay(), NO);
    }

    private static void write() {
        bind("promise 2");
        HatPins x = new HatPins();
        for (int letter : new int[] {MIN, -1, 0, 10, 31, 127, 233, MAX}) {
            due("write " + letter, x.write(letter), BAD);
        }
        due("32", x.write(32), 1);
        due("126", x.write(126), 2);
        for (int i = 3; i <= 200; i++) {
            due("letter " + i, x.write('g'), i);
        }
        due("letter 201", x.write('g'), FULL);
        due("a bad one into the full text", x.write(31), BAD);
        due("how long", x.count(12), 200);
        HatPins y = new HatPins();
        written(y, "g3,7,11,4,25;");
        y.lay();
        int[] told = {3, 11, 4, 25, 0, 7};
        for (int what = 0; what < told.length; what++) {
            due("as written " + what, y.going(0, what), told[what]);
        }
    }

    private static void wipe() {
        bind("promise 3");
        HatPins x = new HatPins();
        due("nothing", x.wipe(), 0);
        written(x, "g0,0,9,1,20;");
        due("twelve", x.wipe(), 12);
        due("again", x.wipe(), 0);
        due("how long", x.count(12), 0);
        due("what is laid stays", x.count(0), 5);
        due("write", x.write('f'), 1);
        due("fault of what came behind", x.fault(), 0);
        for (int i = 0; i < 300; i++) {
            x.write('a');
        }
        due("all", x.wipe(), 200);
        due("no fault", x.fault(), NONE);
    }

    private static void faultIs(String text, int want) {
        HatPins x = new HatPins();
        written(x, text);
        due("fault of " + text, x.fault(), want);
        due("how long is " + text, x.count(12), text.length());
    }

    private static void fault() {
        bind("promise 4");
        faultIs("", NONE);
        faultIs("g0,0,0,0,1;", NONE);
        faultIs("g0,0,0,0,1", 0);
        faultIs("g0,0,0,0,1,", 0);
        faultIs("g0,0,0,0,1,;", 0);
        faultIs("g0,0,0,0;", 0);
        faultIs("g0,0,0,0,1,1;", 0);
        faultIs("g,0,0,0,1;", 0);
        faultIs("g;", 0);
        faultIs("g", 0);
        faultIs(";", 0);
        faultIs("G0,0,0,0,1;", 0);
        faultIs("h0,0,0,0,1;", 0);
        faultIs(" g0,0,0,0,1;", 0);
        faultIs("g 0,0,0,0,1;", 0);
        faultIs("g0,0,0,0,1; ", 11);
        faultIs("g0,0,0,0,1;;", 11);
        faultIs("g0,0,0,0,1;g0,0,0,0,1;x", 22);
        faultIs("g0,0,0,0,1;g0,0,0,0,0;g9,9,9,9,9;", 11);
        faultIs("l0,0;", NONE);
        faultIs("l0,0;l0", 5);
        faultIs("g00,00,00,00,01;", NONE);
        faultIs("g000,0,0,0,1;", 0);
        faultIs("g0,0,0,0,001;", 0);
        faultIs("g0,0,0,0,1:", 0);
        faultIs("g0.0,0,0,1;", 0);
        faultIs("g0,-1,0,0,1;", 0);
        faultIs("g/,0,0,0,1;", 0);
        faultIs("g:,0,0,0,1;", 0);
        faultIs("f0,1,0;", 0);
        faultIs("f0,1,0;g0,0,0,0,1;g0,0,0,0,1;", 0);
        faultIs("g0,0,0,0,1;f0,1,0;g0,0,0,0,1;", 11);
        faultIs("g0,0,0,0,1;f1,0,0;g0,0,0,0,1;", 11);
        faultIs("g0,0,0,0,1;f0,0,0;", 11);
    }

    private static void faultOfNumbers() {
        bind("promise 4");
        faultIs("g3,60,20,5,40;", NONE);
        faultIs("g4,60,20,5,40;", 0);
        faultIs("g3,61,20,5,40;", 0);
        faultIs("g3,98,20,5,40;", 0);
        faultIs("g3,99,20,5,40;", NONE);
        faultIs("g3,60,21,5,40;", 0);
        faultIs("g3,60,20,6,40;", 0);
        faultIs("g3,60,20,5,41;", 0);
        faultIs("g3,60,20,5,0;", 0);
        String two = "g0,0,0,0,1;g0,0,0,0,1;";
        faultIs(two + "f0,1,20;", NONE);
        faultIs(two + "f1,0,0;", NONE);
        faultIs(two + "f0,1,21;", 22);
        faultIs(two + "f0,2,1;", 22);
        faultIs(two + "f2,0,1;", 22);
        faultIs(two + "f1,1,1;", 22);
        faultIs(two + "f0,1;", 22);
        faultIs(two + "f0,1,1,1;", 22);
        faultIs(two + "f0,1,1;f0,1,1;", NONE);
        faultIs("l9,3,2,1,0;", NONE);
        faultIs("l10,3;", 0);
        faultIs("l9;", 0);
        faultIs("l9,4;", 0);
        faultIs("l9,1,1;", 0);
        faultIs("l9,1,01;", 0);
        faultIs("l9,0,1,2,3,0;", 0);
        faultIs("l9,0,1,2,3,4;", 0);
        faultIs("l9,35;", 0);
    }

    private static void faultOfMany() {
        bind("promise 4");
        String seven = "";
        for (int i = 0; i < 7; i++) {
            seven += "g0,0,0,0,1;";
        }
        faultIs(seven, NONE);
        faultIs(seven + "g0,0,0,0,1;", 77);
        String six = seven;
        for (int i = 0; i < 6; i++) {
            six += "f" + i + "," + (i + 1) + ",1;";
        }
        faultIs(six, NONE);
        faultIs(six + "f6,0,1;", 119);
        faultIs(six + "l1,1;l1,1;l1,1;l1,1;", NONE);
        faultIs(six + "l1,1;l1,1;l1,1;l1,1;l1,1;", 139);
    }

    private static void lay() {
        bind("promise 5");
        HatPins x = new HatPins();
        due("of nothing", x.lay(), NO);
        written(x, "l1,1;");
        due("of a lady alone", x.lay(), NO);
        due("as it was", x.count(0), 5);
        written(x, "g1,2,3,4,5;g1,2,3,4,5");
        due("with a fault", x.lay(), NO);
        due("as it was", x.count(0), 5);
        due("as it was", x.count(1), 3);
        x.pass(3);
        x.keep();
        x.note(1, 1);
        due("with a fault", x.lay(), NO);
        int[] were = {5, 3, 3, 4, 1, 0, 0, 10024, 6, 1, 1, 1, 26};
        for (int what = 0; what < were.length; what++) {
            due("as it was: count " + what, x.count(what), were[what]);
        }
        x.write(';');
        due("without a fault", x.lay(), 2);
        int[] are = {2, 1, 0, 2, 0, 0, 0, 10000, 1, 0, 0, 0, 27};
        for (int what = 0; what < are.length; what++) {
            due("laid: count " + what, x.count(what), are[what]);
        }
        due("nothing to undo", x.undo(), NO);
        due("nothing kept", x.back(), NO);
        due("nothing noted", x.waning(0), 126);
        x.pass(24);
        due("once more", x.lay(), 2);
        due("it begins again", x.going(1, 4), 0);
        due("it is due again", x.going(1, 5), 2);
        due("nothing had", x.count(7), 10000);
        HatPins y = laid("g0,0,1,0,1;g0,99,1,0,1;f0,1,3;");
        y.wipe();
        written(y, "g0,0,1,0,1;g0,99,1,0,1;");
        y.lay();
        y.pass(5);
        due("nothing follows that is not told", y.going(1, 5), NONE);
        due("no ladies", y.count(1), 0);
    }

    private static void going() {
        bind("promise 6");
        HatPins x = laid("g0,2,9,3,4;g3,99,8,5,2;f0,1,20;");
        due("no such", x.going(2, 0), BAD);
        due("no such", x.going(-1, 0), BAD);
        due("no such", x.going(MAX, 6), BAD);
        due("no such", x.going(MIN, 6), BAD);
        due("no such what", x.going(0, 7), BAD);
        due("no such what", x.going(0, -1), BAD);
        due("no such what", x.going(0, MIN), BAD);
        due("due", x.going(0, 5), 2);
        due("not due", x.going(1, 5), NONE);
        x.pass(2);
        due("to come", x.going(0, 4), 0);
        due("worth of one to come", x.going(0, 6), 20);
        x.pass(1);
        due("on", x.going(0, 4), 1);
        due("began", x.going(0, 5), 2);
        due("worth", x.going(0, 6), 26);
        x.pass(2);
        due("on", x.going(0, 4), 1);
        due("worth", x.going(0, 6), 20);
        due("not due yet", x.going(1, 5), NONE);
        x.pass(1);
        due("over", x.going(0, 4), 2);
        due("began", x.going(0, 5), 2);
        due("worth of one over", x.going(0, 6), 20);
        due("due 20 behind 6", x.going(1, 5), 26);
        // Due in 99 is due: 60, 19 minutes, over in 78, 20 behind 79.
        HatPins y = passed("g0,60,1,0,19;g0,99,1,0,5;f0,1,20;", 24, 24, 24, 7);
        due("due in 99", y.going(1, 5), 99);
        y.pass(21);
        due("on in 99", y.going(1, 4), 1);
        due("had", y.count(7), 10020);
    }

    /** The worth, and 20, of one of the kind that began in 0, in each of its minutes from 1 on. */
    private static void worthsAre(String numbers, int... want) {
        HatPins x = laid("g" + numbers + ",40;");
        int[] got = new int[want.length];
        for (int i = 0; i < want.length; i++) {
            x.pass(1);
            got[i] = x.going(0, 6);
        }
        if (!Arrays.equals(got, want)) {
            due("worths " + numbers + " " + Arrays.toString(got), 0, 1);
        }
    }

    private static void worths() {
        bind("promise 6");
        worthsAre("0,0,9,5", 24, 19, 14, 9, 4, 0, 0, 0);
        worthsAre("0,0,20,0", 40, 40, 40, 40);
        worthsAre("1,0,9,5", 29, 24, 24, 19, 19, 14, 14, 9, 9, 4, 4, 0, 0, 0);
        worthsAre("2,0,19,5", 44, 49, 54, 59, 60, 60, 60);
        worthsAre("2,0,0,1", 21, 22, 23, 24);
        worthsAre("3,0,9,5", 24, 20, 20, 20);
        worthsAre("3,0,3,1", 22, 21, 20, 20);
    }

    private static void lady() {
        bind("promise 7");
        HatPins x = laid("g0,0,9,1,20;g1,0,9,1,20;g2,0,9,1,20;g3,1,9,1,20;g0,0,9,1,1;l1,0,3;l0,0,1,2,3;l9,2,1;");
        due("no such", x.lady(3, 0), BAD);
        due("no such", x.lady(-1, 0), BAD);
        due("no such", x.lady(MIN, 0), BAD);
        due("no such what", x.lady(0, 3), BAD);
        due("no such what", x.lady(0, -1), BAD);
        due("pins", x.lady(2, 0), 9);
        due("kinds", x.lady(0, 1), 9);
        due("kinds", x.lady(1, 1), 15);
        due("kinds", x.lady(2, 1), 6);
        due("nothing on", x.lady(2, 2), 0);
        x.pass(1);
        due("one on that she reaches, one over", x.lady(0, 2), 1);
        due("no pin", x.lady(1, 2), 0);
        due("two on that she reaches", x.lady(2, 2), 6);
        x.pass(1);
        due("another is on", x.lady(0, 2), 9);
        x.lend(2, 1);
        due("a pin now", x.lady(1, 2), 15);
        x.pin(2, 1);
        due("a pin is lent, one put through", x.lady(2, 0), 7);
        due("one is pinned", x.lady(2, 2), 4);
        due("one is pinned", x.lady(1, 2), 13);
        due("kinds are as they were", x.lady(2, 1), 6);
        due("no ladies", laid("g0,0,9,1,20;").lady(0, 0), BAD);
    }

    private static void pass() {
        bind("promise 8");
        for (int n : new int[] {MIN, -1, 0, 25, MAX}) {
            due("pass " + n, new HatPins().pass(n), BAD);
        }
        // 3, 1, -1, -3
        HatPins x = laid("g0,0,3,2,4;l1,0;");
        due("one", x.pass(1), 10003);
        due("two", x.pass(1), 10004);
        due("four", x.pass(2), 10000);
        due("it is over", x.going(0, 4), 2);
        due("28", x.pass(24), 10000);
        due("minutes", x.count(2), 28);
        // 0, -5, .. -20, -20: 36 of them
        due("below nothing", laid("g0,0,0,5,40;").pass(24), 10000 - 5 - 10 - 15 - 20 * 20);
        due("of two together", laid("g0,0,3,0,4;g2,1,1,2,3;").pass(3), 10000 + 9 + 1 + 3);
        due("one minute long", laid("g0,5,7,5,1;").pass(24), 10007);
        // 1, 1, 0, 0, -1
        due("slow", laid("g1,0,1,1,5;").pass(24), 10001);
        // 3, 0, 0
        due("flat", laid("g3,0,3,4,3;").pass(24), 10003);
        // 20, 25, 30
        due("rising", passed("g2,0,20,5,3;", 5).count(7), 10020 + 25 + 30);
    }

    private static void passFollows() {
        bind("promise 8");
        // g0 is over in 3, so g1 is due 0 behind 4; g1 in 4, so g2 5 behind 5.
        HatPins x = passed("g0,2,1,0,2;g0,99,1,0,1;g0,99,1,0,3;f0,1,0;f1,2,5;", 4);
        due("due at once", x.going(1, 5), 4);
        due("to come", x.going(1, 4), 0);
        due("the third is not due", x.going(2, 5), NONE);
        x.pass(1);
        due("it was on and is over", x.going(1, 4), 2);
        due("due five behind", x.going(2, 5), 10);
        // What is due sooner stays so; what would be due later becomes sooner.
        HatPins y = passed("g0,0,1,0,2;g0,5,1,0,1;g0,30,1,0,3;f0,1,4;f0,2,4;", 2);
        due("sooner as it was", y.going(1, 5), 5);
        due("sooner as it follows", y.going(2, 5), 6);
        // Of two that it follows the sooner one counts, of two gaps too.
        HatPins z = passed("g0,0,1,0,2;g0,0,1,0,3;g0,99,1,0,1;f1,2,0;f0,2,5;f0,2,9;f1,2,7;", 3);
        due("three", z.going(2, 5), 3);
        // One that is on does not begin again, nor one that is over.
        HatPins w = passed("g0,0,1,0,2;g0,0,1,0,5;g0,0,1,0,1;f0,1,0;f0,2,0;", 4);
        due("still on", w.going(1, 5), 0);
        due("still over", w.going(2, 4), 2);
        due("had", w.count(7), 10007);
        // In a ring each begins but once.
        due("ring", passed("g0,0,1,0,2;g0,99,1,0,2;f0,1,0;f1,0,0;", 24).count(7), 10004);
    }

    private static void passTo999() {
        bind("promise 8");
        HatPins x = laid("g0,0,1,0,1;");
        for (int i = 0; i < 41; i++) {
            x.pass(24);
        }
        due("984", x.count(2), 984);
        due("beyond", x.pass(16), NO);
        due("984 still", x.count(2), 984);
        due("998", x.pass(14), 10001);
        due("beyond", x.pass(2), NO);
        due("999", x.pass(1), 10001);
        due("beyond", x.pass(1), NO);
        due("bad is told first", x.pass(0), BAD);
        due("999", x.count(2), 999);
        due("nothing but quiet", x.quiet(), 60);
        due("undone", x.undo(), 7);
        due("998", x.count(2), 998);
    }

    private static void pin() {
        bind("promise 9");
        HatPins x = laid("g0,0,9,1,20;g1,0,9,1,20;g0,1,9,1,3;g0,0,9,1,20;l2,0;l0,0;");
        due("no such lady", x.pin(2, 0), BAD);
        due("no such lady", x.pin(-1, 0), BAD);
        due("no such going-on", x.pin(0, 4), BAD);
        due("no such going-on", x.pin(0, -1), BAD);
        due("wild", x.pin(MAX, MIN), BAD);
        due("to come", x.pin(0, 0), NO);
        x.pass(1);
        due("not on yet", x.pin(0, 2), NO);
        due("not reached", x.pin(0, 1), NO);
        due("no pin", x.pin(1, 0), NO);
        due("pinned", x.pin(0, 0), 1);
        due("state", x.going(0, 4), 3);
        due("began", x.going(0, 5), 0);
        due("worth", x.going(0, 6), 20);
        due("pinned already", x.pin(0, 0), NO);
        due("its minutes count no more", x.pass(3),
            10000 + (9 + 9 + 9) + (9 + 9 + 8) + (8 + 8 + 7) + (8 + 7 + 6));
        due("over", x.pin(0, 2), NO);
        due("the last pin", x.pin(0, 3), 0);
        due("none left", x.pin(0, 1), NO);
        due("how many are pinned", x.count(6), 2);
        due("bad is told first", x.pin(0, 4), BAD);
    }

    private static void pinFollows() {
        bind("promise 9");
        String text = "g0,0,1,0,9;g0,99,1,0,1;g0,5,1,0,1;g0,30,1,0,1;f0,1,0;f0,2,7;f0,3,7;l1,0;";
        HatPins x = passed(text, 3);
        x.pin(0, 0);
        due("due at once", x.going(1, 5), 3);
        due("sooner as it was", x.going(2, 5), 5);
        due("seven behind 3", x.going(3, 5), 10);
        due("one more only", x.pass(1), 10004);
        due("it is over", x.going(1, 4), 2);
        // Behind the pin it is not over once more in its last minute.
        HatPins y = passed("g0,0,1,0,4;g0,99,1,0,1;f0,1,20;l1,0;", 1);
        y.pin(0, 0);
        y.pass(10);
        due("due as by the pin", y.going(1, 5), 21);
        due("pinned still", y.going(0, 4), 3);
    }

    private static void lend() {
        bind("promise 10");
        HatPins x = laid("g0,0,9,1,20;l2,0;l8,1;l0,2;");
        due("alike", x.lend(0, 0), BAD);
        due("alike, with none", x.lend(2, 2), BAD);
        due("no such", x.lend(0, 3), BAD);
        due("no such", x.lend(3, 0), BAD);
        due("no such", x.lend(-1, 0), BAD);
        due("no such", x.lend(0, MIN), BAD);
        due("none", x.lend(2, 0), NO);
        due("nine", x.lend(0, 1), 9);
        due("she has one less", x.lady(0, 0), 1);
        due("none, and the other has nine", x.lend(2, 1), NO);
        due("full", x.lend(0, 1), FULL);
        due("nothing changed", x.lady(0, 0), 1);
        due("to the third", x.lend(0, 2), 1);
        due("none now", x.lend(0, 2), NO);
        due("back", x.lend(1, 0), 1);
        due("pins in all", x.count(8), 10);
        due("acts", x.count(10), 3);
    }

    private static void undo() {
        bind("promise 11");
        HatPins x = laid("g0,0,9,1,20;g0,99,1,0,1;f0,1,9;l2,0;l8,1;");
        due("nothing yet", x.undo(), NO);
        x.pass(7);
        x.pin(0, 0);
        x.lend(1, 0);
        due("three", x.count(10), 3);
        due("lent back", x.undo(), 2);
        due("pins", x.lady(0, 0), 1);
        due("pins", x.lady(1, 0), 8);
        due("due", x.going(1, 5), 16);
        due("unpinned", x.undo(), 1);
        due("pins", x.lady(0, 0), 2);
        due("on", x.going(0, 4), 1);
        due("not due", x.going(1, 5), NONE);
        due("seven minutes at one time", x.undo(), 0);
        due("minute", x.count(2), 0);
        due("had", x.count(7), 10000);
        due("to come", x.going(0, 4), 0);
        due("no more", x.undo(), NO);
        for (int n = 1; n <= 10; n++) {
            x.pass(n);
        }
        due("eight at most", x.count(10), 8);
        for (int n = 7; n >= 0; n--) {
            due("undone", x.undo(), n);
            due("as it was ahead of so many", x.count(2), (n + 2) * (n + 3) / 2);
        }
        due("no more", x.undo(), NO);
        due("the oldest two stay", x.count(2), 3);
        x.pass(0);
        x.pin(0, 1);
        x.lend(0, 0);
        x.note(0, 0);
        due("what can't be is no act", x.undo(), NO);
        due("notes stay", x.count(9), 1);
    }

    private static void behind() {
        bind("promise 12");
        // 3, 1, -1, -3, then nothing; 5, 5 from 2 on
        HatPins x = laid("g0,0,3,2,4;g0,2,5,0,2;l1,0;");
        int[] had = {0, 3, 4, 8, 10, 10};
        int[] on = {0, 1, 1, 3, 0, 0};
        for (int n = 0; n < had.length; n++) {
            due("had behind " + n, x.behind(n, 0), 10000 + had[n]);
            due("on behind " + n, x.behind(n, 1), on[n]);
        }
        due("had behind 60", x.behind(60, 0), 10010);
        due("61", x.behind(61, 0), BAD);
        due("-1", x.behind(-1, 0), BAD);
        due("wild", x.behind(MIN, MAX), BAD);
        due("no such what", x.behind(0, 2), BAD);
        due("no such what", x.behind(0, -1), BAD);
        due("nothing changes", x.count(2), 0);
        x.pass(3);
        due("from now on", x.behind(0, 0), 10008);
        due("from now on", x.behind(1, 0), 10010);
        due("on now", x.behind(0, 1), 3);
        HatPins y = laid("g0,0,1,0,1;g0,60,1,0,1;g0,59,1,0,9;");
        due("59 counts, 60 does not", y.behind(60, 0), 10002);
        due("on behind 60", y.behind(60, 1), 4);
    }

    private static void dull() {
        bind("promise 13");
        due("third minute", laid("g0,0,3,2,4;").dull(), 2);
        due("now", passed("g0,0,3,2,4;", 2).dull(), 0);
        due("over", passed("g0,0,3,2,4;", 4).dull(), NONE);
        due("nothing is not below nothing", laid("g0,0,0,0,4;").dull(), NONE);
        due("all that is on together", laid("g0,0,3,2,4;g0,0,2,0,4;").dull(), 3);
        due("two make good", laid("g0,0,3,2,4;g0,0,3,0,4;").dull(), NONE);
        due("behind 60", laid("g0,59,0,1,4;").dull(), 60);
        due("behind 61", laid("g0,60,0,1,4;").dull(), NONE);
        due("behind 60 a minute later", passed("g0,60,0,1,4;", 1).dull(), 60);
        due("as it follows", laid("g0,0,0,0,4;g0,99,0,5,3;f0,1,3;").dull(), 8);
        due("not for what was had", laid("g0,0,20,0,2;g0,2,0,5,5;").dull(), 3);
    }

    private static void quiet() {
        bind("promise 14");
        due("behind it", laid("g0,0,3,2,4;").quiet(), 56);
        due("ahead of it", laid("g0,40,3,2,40;").quiet(), 40);
        due("all", laid("g0,60,3,2,40;").quiet(), 60);
        due("all but the last", laid("g0,59,3,2,40;").quiet(), 59);
        due("between", laid("g0,10,3,2,1;g0,50,1,1,30;").quiet(), 39);
        due("not in all", laid("g0,20,3,2,1;g0,40,1,1,1;").quiet(), 20);
        due("none", laid("g0,0,3,2,30;g0,30,1,1,40;").quiet(), 0);
        due("worth nothing is on", laid("g0,0,0,0,40;g0,40,1,1,10;").quiet(), 10);
        due("from now on", passed("g0,24,3,2,1;", 24).quiet(), 59);
        due("as it follows", laid("g0,0,0,0,4;g0,99,0,5,3;f0,1,3;").quiet(), 50);
    }

    private static void stopIs(HatPins x, int g, int minutes, int had) {
        due("stop minutes", x.stop(g, 0), minutes);
        due("stop had", x.stop(g, 1), had);
    }

    private static void stop() {
        bind("promise 15");
        HatPins x = laid("g0,0,3,2,4;");
        due("no such", x.stop(1, 0), BAD);
        due("no such", x.stop(-1, 0), BAD);
        due("no such what", x.stop(0, 2), BAD);
        due("no such what", x.stop(0, -1), BAD);
        // 3, 4, 3, 0; no lady is asked.
        stopIs(x, 0, 2, 10004);
        x.pass(1);
        stopIs(x, 0, 1, 10004);
        x.pass(2);
        stopIs(x, 0, 0, 10003);
        x.pass(1);
        due("over", x.stop(0, 0), NO);
        due("bad is told first", x.stop(0, 2), BAD);
        HatPins y = passed("g0,0,3,2,4;l1,0;", 1);
        y.pin(0, 0);
        due("pinned", y.stop(0, 1), NO);
        stopIs(laid("g0,0,3,0,4;"), 0, NONE, NONE);
        // Of worth 0 in its last minute: no better than never.
        stopIs(laid("g0,0,2,1,3;"), 0, NONE, NONE);
        // 0, -1, -2, ..: from 0 on is the first of several, each as soon as it is on.
        stopIs(laid("g0,5,0,1,9;"), 0, 0, 10000);
        // It begins in 45, behind all that can be said: as soon as it is on all the same.
        stopIs(laid("g0,45,0,1,9;"), 0, 0, 10000);
        // 1, 1, 0, 0, -1, .. from 37 on
        stopIs(laid("g1,37,1,1,20;"), 0, 39, 10002);
        // 2, 2, 1, 1, 0, .. from 37 on: 41 were better, but 40 is the most that can be said.
        stopIs(laid("g1,37,2,1,20;"), 0, 40, 10000 + 2 + 2 + 1);
        // Its worth: 5, 0, -5, ..; what follows brings more the sooner it is due: 40 minutes of 20.
        stopIs(laid("g0,0,5,5,30;g0,99,20,0,40;f0,1,19;"), 0, 0, 10000 + 5 + 800);
        stopIs(laid("g0,0,5,5,30;g0,99,20,0,40;f0,1,20;"), 0, 0, 10000 + 5 + 20 * 39);
        stopIs(laid("g0,99,5,5,30;"), 0, NONE, NONE);
        stopIs(laid("g0,20,1,5,1;"), 0, NONE, NONE);
    }

    private static void best() {
        bind("promise 16");
        HatPins x = laid("g0,0,3,2,4;g0,0,1,2,4;g1,0,0,1,9;l1,0;l1,0,1;");
        due("no such what", x.best(2), BAD);
        due("no such what", x.best(-1), BAD);
        due("nothing on", x.best(0), NONE);
        x.pass(1);
        // 3 + 1 + 0 had; to come: 1 - 1 - 3 = -3, -1 - 3 - 5 = -9, 0 -1 -1 -2 -2 -3 -3 -4 = -16
        due("the slow one, by the second lady", x.best(0), 12);
        due("had", x.best(1), 10000 + 4 - 3 - 9);
        x.pin(1, 2);
        due("the next, by the first lady", x.best(0), 1);
        due("had", x.best(1), 10000 + 4 - 3);
        x.pin(0, 1);
        due("no pin", x.best(0), NONE);
        due("no pin", x.best(1), NONE);
        HatPins y = passed("g0,0,3,2,4;g0,0,3,2,4;l1,1;l1,0;l9,0;", 1);
        due("the first of several", y.best(0), 10);
        HatPins z = passed("g0,0,3,0,4;l1,0;", 1);
        due("not more than by none", z.best(0), NONE);
        due("as much as by none", passed("g0,0,0,0,4;l1,0;", 1).best(0), NONE);
        HatPins w = passed("g0,0,1,0,4;g0,99,20,0,30;f0,1,20;l1,0;", 1);
        // Over in 3: due in 24; pinned now: in 21. All of its 30 minutes in both.
        due("follows", w.best(0), NONE);
        HatPins v = passed("g0,0,1,0,40;g0,99,20,0,40;f0,1,20;l1,0;", 1);
        due("it follows sooner", v.best(0), 0);
        due("had", v.best(1), 10000 + 1 + 800);
        due("none changes", v.count(6), 0);
    }

    private static void both() {
        bind("promise 17");
        HatPins x = laid("g0,0,3,2,4;g0,0,1,2,4;g1,0,0,1,9;");
        due("no such what", x.both(2), BAD);
        due("no such what", x.both(-1), BAD);
        due("nothing on", x.both(0), NONE);
        x.pass(1);
        due("the worst two, no lady", x.both(0), 12);
        due("had", x.both(1), 10000 + 4 - 3);
        HatPins y = passed("g0,0,3,0,4;g0,1,1,0,4;l9,0;", 1);
        due("one is on", y.both(0), NONE);
        due("one is on", y.both(1), NONE);
        y.pass(1);
        due("less than by none", y.both(0), 1);
        due("had", y.both(1), 10007);
        y.pin(0, 1);
        due("one is pinned", y.both(0), NONE);
        HatPins z = passed("g0,0,3,0,4;g0,0,3,0,4;g0,0,3,0,4;", 1);
        due("the first of several", z.both(0), 1);
        due("had", z.both(1), 10018);
        HatPins w = passed("g0,0,0,5,9;g0,0,9,0,4;g0,0,0,5,9;g0,0,0,5,9;", 1);
        due("the lower, then the other", w.both(0), 2);
        // All that is had is below nothing: -5 in each of 2 minutes a going-on, one is left.
        HatPins v = passed("g0,0,0,5,9;g0,0,0,5,9;g0,0,0,4,9;", 2);
        due("below nothing", v.both(0), 1);
        due("had", v.both(1), 10000 - 5 - 5 - 4 - 8 - 12 - 16 - 20 * 4);
    }

    private static void never() {
        bind("promise 18");
        HatPins x = laid("g0,0,0,1,4;g0,9,0,2,4;g0,9,9,0,1;");
        due("no such what", x.never(2), BAD);
        due("no such what", x.never(-1), BAD);
        due("the worst", x.never(0), 1);
        due("had", x.never(1), 10000 - 6 + 9);
        x.pass(10);
        due("nothing to come", x.never(0), NONE);
        due("nothing to come", x.never(1), NONE);
        due("the lowest of several", laid("g0,0,0,1,4;g0,9,0,1,4;").never(0), 0);
        due("not more", laid("g0,0,0,0,4;g0,9,1,0,4;").never(0), NONE);
        // Nothing begins by it: the second would bring -30.
        HatPins y = laid("g0,0,1,0,4;g0,99,0,5,4;f0,1,3;");
        due("the second itself is better off", y.never(0), 1);
        due("had", y.never(1), 10004);
        HatPins z = laid("g0,0,0,0,4;g0,99,0,5,4;f0,1,3;");
        due("the first, as nothing begins by it", z.never(0), 0);
        due("had", z.never(1), 10000);
        // What it hastens begins in its own time then, behind the 60 minutes.
        HatPins w = laid("g0,0,0,0,1;g0,60,0,5,4;f0,1,3;");
        due("later without it", w.never(0), 0);
        due("had", w.never(1), 10000);
        due("nothing changes", w.going(0, 4), 0);
    }

    private static void note() {
        bind("promise 19");
        HatPins x = new HatPins();
        int[][] bad = {{-1, 0}, {40, 0}, {0, 21}, {0, -21}, {MIN, 0}, {0, MAX}};
        for (int[] b : bad) {
            due("note " + b[0] + " " + b[1], x.note(b[0], b[1]), BAD);
        }
        due("first", x.note(0, 20), 1);
        due("second", x.note(39, -20), 2);
        due("the same once more", x.note(39, -20), 3);
        for (int i = 4; i <= 8; i++) {
            due("noted", x.note(i, 0), i);
        }
        due("ninth", x.note(1, 1), FULL);
        due("bad is told first", x.note(40, 1), BAD);
        due("how many", x.count(9), 8);
        due("no act", x.count(10), 0);
    }

    private static void forget() {
        bind("promise 20");
        HatPins x = new HatPins();
        due("nothing", x.forget(), 0);
        x.note(0, -1);
        x.note(1, 1);
        due("none is so", x.waning(0), 0);
        due("two", x.forget(), 2);
        due("how many", x.count(9), 0);
        due("all are so", x.waning(0), 126);
        due("again", x.forget(), 0);
        due("first again", x.note(3, 5), 1);
    }

    private static void waning() {
        bind("promise 21");
        HatPins x = new HatPins();
        due("no such what", x.waning(2), BAD);
        due("no such what", x.waning(-1), BAD);
        due("all", x.waning(0), 126);
        due("first", x.waning(1), 0);
        x.note(3, 5);
        // 5 0, 8 1, 11 2, 14 3, 17 4, 20 5
        due("six", x.waning(0), 6);
        due("first", x.waning(1), 50);
        x.note(0, 17);
        due("one", x.waning(0), 1);
        due("17, 4", x.waning(1), 174);
        x.note(1, 12);
        due("none", x.waning(0), 0);
        due("none", x.waning(1), NONE);
        x.forget();
        x.note(10, -20);
        // I - 10 W at most -20: W 2: 0; 3: 0 to 10; 4: 0 to 20; 5: 0 to 20
        due("-20 at least", x.waning(0), 1 + 11 + 21 + 21);
        due("the first by I", x.waning(1), 2);
        x.forget();
        x.note(39, -20);
        x.note(10, -19);
        // I - 10 W is -19: 1 2, 11 3; 21 is too much
        due("both are so", x.waning(0), 2);
        due("first", x.waning(1), 12);
        x.forget();
        x.note(0, 20);
        due("20 by any W", x.waning(0), 6);
        due("first", x.waning(1), 200);
    }

    private static void kinds() {
        bind("promise 22");
        HatPins x = laid("g2,0,8,3,20;g0,0,20,5,20;g0,0,0,0,1;");
        due("no such", x.kinds(3), BAD);
        due("no such", x.kinds(-1), BAD);
        due("wild", x.kinds(MAX), BAD);
        due("nothing noted", x.kinds(0), 15);
        x.note(0, 8);
        due("alike at first", x.kinds(0), 15);
        due("other numbers", x.kinds(1), 0);
        x.note(2, 2);
        due("plain, flat", x.kinds(0), 9);
        x.note(4, 0);
        due("flat", x.kinds(0), 8);
        x.forget();
        x.note(4, 2);
        due("slow", x.kinds(0), 2);
        x.forget();
        x.note(4, -4);
        due("plain", x.kinds(0), 1);
        x.forget();
        x.note(4, 20);
        due("rising", x.kinds(0), 4);
        x.forget();
        x.note(39, -20);
        due("plain, slow", x.kinds(1), 3);
        x.note(8, -20);
        due("plain", x.kinds(1), 1);
        x.forget();
        x.note(39, 0);
        due("of nothing any", x.kinds(2), 15);
    }

    private static void late() {
        bind("promise 23");
        // In time 40 each; 20 late: 28 to 59 and 27 to 59, so 32 and 33.
        HatPins x = laid("g0,8,1,0,40;g0,7,1,0,40;l1,0;");
        int[][] bad = {{0, 5, 5, 0}, {21, 5, 5, 0}, {5, -1, 5, 0}, {5, 11, 5, 0}, {5, 5, -1, 0}, {5, 5, 1000, 0},
            {5, 5, 5, 2}, {5, 5, 5, -1}, {MIN, MAX, MIN, MAX}};
        for (int[] b : bad) {
            due("late " + Arrays.toString(b), x.late(b[0], b[1], b[2], b[3]), BAD);
        }
        chanceIs(x, 20, 3, 65, 1, 1);
        chanceIs(x, 20, 3, 66, 91, 100);
        chanceIs(x, 20, 3, 72, 91, 100);
        chanceIs(x, 20, 3, 73, 7, 10);
        chanceIs(x, 20, 3, 74, 49, 100);
        chanceIs(x, 20, 3, 80, 49, 100);
        chanceIs(x, 20, 3, 81, 0, 1);
        chanceIs(x, 20, 5, 72, 3, 4);
        chanceIs(x, 20, 0, 80, 1, 1);
        chanceIs(x, 20, 10, 66, 0, 1);
        chanceIs(x, 20, 10, 65, 1, 1);
        chanceIs(x, 12, 4, 80, 1, 1);
        chanceIs(x, 13, 4, 80, 3, 5);
        chanceIs(x, 20, 4, 0, 1, 1);
        chanceIs(x, 1, 0, 999, 0, 1);
        due("nothing changes", x.going(0, 5), 8);
        // What was had counts, what is on can't be late.
        HatPins y = passed("g0,0,5,0,40;", 10);
        chanceIs(y, 20, 10, 200, 1, 1);
        chanceIs(y, 20, 10, 201, 0, 1);
        // A late one is on sooner by what it follows: due 28, but 2 behind 3.
        HatPins z = passed("g0,0,1,0,3;g0,8,1,0,40;f0,1,2;", 1);
        chanceIs(z, 20, 10, 43, 1, 1);
        HatPins w = laid("g0,60,1,0,40;");
        chanceIs(w, 20, 5, 0, 1, 1);
        chanceIs(w, 20, 5, 1, 0, 1);
        // Seven for themselves: 0, 1, .. of seven are late; each late one brings 1 less.
        HatPins v = laid("g0,8,1,0,40;g0,8,1,0,40;g0,8,1,0,40;g0,8,1,0,40;g0,8,1,0,40;g0,8,1,0,40;g0,8,1,0,40;");
        chanceIs(v, 13, 3, 280, 823543, 10000000);
        chanceIs(v, 13, 5, 280, 1, 128);
        chanceIs(v, 13, 5, 279, 1, 16);
    }

    private static void lateSoon() {
        bind("promise 23");
        // Due in the 9th of the next minutes it can be late, in the 10th not.
        HatPins x = laid("g0,9,1,0,40;");
        chanceIs(x, 20, 10, 40, 1, 1);
        x.pass(1);
        chanceIs(x, 20, 10, 33, 0, 1);
        chanceIs(x, 20, 10, 32, 1, 1);
        x.pass(8);
        // Due in this minute: 29 to 68 then, of 9 to 68.
        chanceIs(x, 20, 5, 40, 1, 1);
        HatPins y = laid("g0,0,1,0,40;g0,99,1,0,40;f0,1,0;");
        // 40 and 20; 5 late: 40 and 15
        chanceIs(y, 5, 1, 60, 9, 10);
        chanceIs(y, 5, 1, 55, 1, 1);
        chanceIs(y, 5, 1, 56, 9, 10);
    }

    private static void season() {
        bind("promise 24");
        HatPins x = laid("g0,0,3,2,4;l1,0;");
        int[][] bad = {{-1, 5, 0}, {10000, 5, 0}, {0, 0, 0}, {0, 61, 0}, {0, 5, 2}, {0, 5, -1}, {MIN, MAX, 0}};
        for (int[] b : bad) {
            due("season " + Arrays.toString(b), x.season(b[0], b[1], b[2]), BAD);
        }
        // By 0 the first draw is 1: LADY 0 pins GOING-ON 0, if it is on.
        due("it is not on", x.season(0, 1, 0), 10003);
        due("one pin", x.season(0, 1, 1), 1);
        x.pass(1);
        due("it is pinned", x.season(0, 1, 0), 10003);
        due("no pin", x.season(0, 1, 1), 0);
        due("nothing changes", x.lady(0, 0), 1);
        due("nothing changes", x.count(2), 1);
        due("no act", x.count(10), 1);
        due("no lady", passed("g0,0,3,2,4;", 1).season(0, 60, 0), 10000);
        due("no pins", passed("g0,0,3,2,4;", 1).season(0, 60, 1), 0);
        seasonIsAsPlayed(laid("g0,0,9,1,20;g1,3,6,2,15;g2,9,2,1,12;g3,10,5,1,30;l2,0,1;l1,2,3;l3,0;"), 9999);
        for (int z = 0; z < 10000; z += 37) {
            seasonIsAsPlayed(laid("g0,0,9,1,20;g1,3,6,2,15;g2,99,2,1,12;g3,10,5,1,30;f0,2,1;l2,0,1;l1,2,3;l3,0;"), z);
            // The first can lend to none of the others: they have 9.
            seasonIsAsPlayed(laid("g0,0,9,5,40;g0,0,9,4,40;g0,0,9,3,40;l1,0;l9,1;l9,1;"), z);
            seasonIsAsPlayed(laid("g0,0,9,5,40;g0,0,9,4,40;l0,0;l8,1;"), z);
        }
    }

    private static void keepAndBack() {
        HatPins x = laid("g0,0,3,0,9;g0,99,1,0,1;f0,1,2;l2,0;l1,1;");
        bind("promise 26");
        due("nothing kept", x.back(), NO);
        bind("promise 25");
        due("first", x.keep(), 1);
        x.pass(1);
        x.pin(0, 0);
        due("second", x.keep(), 2);
        due("third", x.keep(), FULL);
        due("how many", x.count(11), 2);
        x.lend(0, 1);
        x.pass(9);
        x.note(1, 1);
        x.write('g');
        due("acts", x.count(10), 4);
        bind("promise 26");
        due("one is left", x.back(), 1);
        due("minute", x.count(2), 1);
        due("had", x.count(7), 10003);
        due("pinned", x.going(0, 4), 3);
        due("due", x.going(1, 5), 3);
        due("pins", x.lady(0, 0), 1);
        due("pins", x.lady(1, 0), 1);
        due("nothing undone", x.undo(), NO);
        due("notes stay", x.count(9), 1);
        due("letters stay", x.count(12), "g0,0,3,0,9;g0,99,1,0,1;f0,1,2;l2,0;l1,1;".length() + 1);
        x.pass(2);
        due("kept again", x.keep(), 2);
        x.pass(2);
        due("back", x.back(), 1);
        due("minute", x.count(2), 3);
        due("none is left", x.back(), 0);
        due("minute", x.count(2), 0);
        due("to come", x.going(0, 4), 0);
        due("pins", x.lady(0, 0), 2);
        due("no more", x.back(), NO);
        bind("promise 25");
        x.pass(1);
        x.keep();
        due("undone all the same", x.undo(), 0);
        due("kept all the same", x.count(11), 1);
        due("back", x.back(), 0);
        due("minute", x.count(2), 1);
    }

    private static void count() {
        bind("promise 27");
        HatPins x = laid("g0,0,3,0,2;g0,0,4,0,9;g0,0,5,0,9;g0,5,1,0,1;g0,6,1,0,1;g0,0,1,0,9;l2,0;l9,1;");
        for (int what : new int[] {MIN, -1, 13, MAX}) {
            due("count " + what, x.count(what), BAD);
        }
        x.pass(1);
        x.pass(1);
        x.pin(0, 1);
        x.keep();
        x.keep();
        x.note(5, 5);
        int[] want = {6, 2, 2, 2, 2, 1, 1, 10026, 10, 1, 3, 2, 76};
        for (int what = 0; what < want.length; what++) {
            due("count " + what, x.count(what), want[what]);
        }
    }

    private static int[] allOf(HatPins x) {
        int[] all = new int[13 + 7 * 7 + 4 * 3];
        int at = 0;
        for (int what = 0; what < 13; what++) {
            all[at++] = x.count(what);
        }
        for (int g = 0; g < 7; g++) {
            for (int what = 0; what < 7; what++) {
                all[at++] = x.going(g, what);
            }
        }
        for (int l = 0; l < 4; l++) {
            for (int what = 0; what < 3; what++) {
                all[at++] = x.lady(l, what);
            }
        }
        return all;
    }

    private static void errorsChangeNothing() {
        bind("each promise");
        HatPins x = new HatPins();
        x.pass(4);
        x.pin(0, 0);
        x.keep();
        x.note(1, 2);
        x.write('g');
        int[] were = allOf(x);
        x.write(200);
        x.lay();
        x.fault();
        x.pass(25);
        x.pin(0, 0);
        x.pin(5, 5);
        x.lend(1, 1);
        x.note(50, 0);
        for (int what = -1; what < 3; what++) {
            for (int g = -1; g < 6; g++) {
                x.stop(g, what);
                x.behind(10 * g, what);
                x.kinds(g);
            }
            x.best(what);
            x.both(what);
            x.never(what);
            x.waning(what);
            x.late(20, 5, 50, what);
            x.season(77, 60, what);
        }
        x.dull();
        x.quiet();
        due("nothing changes", Arrays.equals(were, allOf(x)) ? 1 : 0, 1);
    }
}
