import java.util.List;
import java.util.function.IntPredicate;

/** The bounds that part 4 of the Terms names: of notes, late ones, seasons, what is kept; and its closing sentences. */
public final class LateBounds extends Sentences {
    public static void main(String[] args) {
        notes();
        waningOf();
        waningHowMany();
        kinds();
        lateSoon();
        lateBy();
        lateOfTen();
        lateHad();
        lateForItself();
        seasonBy();
        seasonMinutes();
        seasonLadies();
        seasonActs();
        seasonLends();
        seasonDraws();
        seasonTells();
        keptMost();
        keptAll();
        hadAsItIs();
        badNumbers();
        inThisOrder();
        eachWordIsQuoted("======== 4 ", "Ahead of the calls `write`");
        end("the bounds of notes, late ones and seasons are kept");
    }

    private static HatPins noted(int... minutesAndWorths) {
        HatPins x = new HatPins();
        for (int i = 0; i + 1 < minutesAndWorths.length; i += 2) {
            x.note(minutesAndWorths[i], minutesAndWorths[i + 1]);
        }
        return x;
    }

    private static void notes() {
        sentence("NOTED (8 at most) is that one that is PLAIN was worth v (-20 to 20) in its g-th (0 to 39) MINUTE.");
        HatPins x = new HatPins();
        int[][] fit = {{0, -20}, {0, 20}, {39, -20}, {39, 20}, {0, 0}, {39, 0}, {39, 0}, {1, -19}};
        for (int i = 0; i < 8; i++) {
            due("note " + i, x.note(fit[i][0], fit[i][1]), i + 1);
        }
        due("a ninth", x.note(0, 0), FULL);
        due("eight stay", x.count(9), 8);
        Acts eight = y -> {
            for (int g = 0; g < 8; g++) {
                y.note(g, 12 - g);
            }
        };
        refused("a ninth that is not so", eight, y -> y.note(0, 0), FULL);
        due("all eight are so", after(eight).waning(1), 121);
        due("the eighth counts", noted(0, 9, 0, 9, 0, 9, 0, 9, 0, 9, 0, 9, 0, 9, 0, 8).waning(0), 0);
        Acts two = y -> {
            y.note(3, 5);
            y.note(4, 4);
        };
        int[][] unfit = {{-1, 0}, {40, 0}, {0, -21}, {0, 21}, {MIN, 0}, {MAX, 0}, {0, MIN}, {0, MAX}};
        for (int[] n : unfit) {
            refused("note " + n[0] + " " + n[1], two, y -> y.note(n[0], n[1]), BAD);
        }
    }

    private static void waningIs(HatPins x, int many, int first) {
        due("waning how many", x.waning(0), many);
        due("waning first", x.waning(1), first);
    }

    private static void waningOf() {
        sentence("WANING: of I (0 to 20) and W (0 to 5) those by which all that is NOTED would be so");
        waningIs(noted(0, 0, 39, 0), 1, 0);
        waningIs(noted(0, 20, 1, 15), 1, 205);
        waningIs(noted(0, 20, 1, 14), 0, NONE);
        waningIs(noted(0, 0), 6, 0);
        waningIs(noted(0, -1), 0, NONE);
        waningIs(noted(0, 20), 6, 200);
        waningIs(noted(1, 20), 1, 200);
        waningIs(noted(0, 0, 1, 1), 0, NONE);
        waningIs(noted(0, 0, 39, -20), 5, 1);
        waningIs(noted(1, -5), 1, 5);
        waningIs(noted(1, -6), 0, NONE);
        // -20 at least: 19 less 39 W is -20 by 1, too.
        waningIs(noted(0, 19, 39, -20), 5, 191);
        waningIs(noted(0, 20, 39, -19), 1, 201);
        waningIs(noted(0, 20, 39, -20), 4, 202);
    }

    private static void waningHowMany() {
        sentence("how many; the first (by I, then W), as 10 I and W; none.");
        waningIs(noted(), 126, 0);
        waningIs(noted(3, 5), 6, 50);
        waningIs(noted(3, 5, 3, 5), 6, 50);
        waningIs(noted(3, 5, 0, 8), 1, 81);
        waningIs(noted(3, 5, 3, 6), 0, NONE);
        waningIs(noted(0, 7), 6, 70);
        HatPins x = noted(3, 5, 3, 6);
        x.forget();
        waningIs(x, 126, 0);
    }

    private static void kinds() {
        sentence("KINDS of a GOING-ON (bits of 0 to 3), by its I, W, by which all that is NOTED were so of it.");
        String text = "g3,0,2,1,1;g0,0,20,5,1;g0,99,0,0,1;";
        int[][] worths = {{0, 2, 15}, {1, 1, 9}, {1, 2, 2}, {1, 3, 4}, {3, 0, 8}, {3, -1, 1}, {3, 1, 2}, {2, 0, 9},
            {2, 1, 2}, {2, 4, 4}, {39, 0, 8}, {39, -20, 1}, {39, -17, 2}, {4, 0, 10}, {0, 1, 0}, {0, 3, 0}};
        for (int[] w : worths) {
            HatPins x = laid(text);
            x.note(w[0], w[1]);
            due("kinds by " + w[0] + " " + w[1], x.kinds(0), w[2]);
        }
        HatPins y = laid(text);
        due("nothing is noted", y.kinds(0), 15);
        y.note(0, 0);
        due("of 0 all", y.kinds(2), 15);
        due("of 20 none", y.kinds(1), 0);
        y.note(39, 0);
        due("of 0 all still", y.kinds(2), 15);
        due("there is no 3", y.kinds(3), BAD);
        due("there is no -1", y.kinds(-1), BAD);
        HatPins z = laid(text);
        z.note(39, -20);
        due("-20 at least of 20 less 195, and of 20 less 95", z.kinds(1), 3);
        HatPins w = laid("g0,0,20,1,1;g2,0,20,0,1;");
        w.note(39, 20);
        due("40 is not 20", w.kinds(0), 0);
        due("20 for good", w.kinds(1), 15);
    }

    private static void lateSoon() {
        sentence("LATE: each that is TO COME, due in the next 9 MINUTES (this one, too)");
        // 40 minutes in time, 60 - 20 - B of them, 20 late.
        chanceIs(laid("g0,1,1,0,40;"), 20, 5, 40, 1, 2);
        chanceIs(laid("g0,8,1,0,40;"), 20, 5, 40, 1, 2);
        chanceIs(laid("g0,9,1,0,40;"), 20, 5, 40, 1, 1);
        chanceIs(laid("g0,20,1,0,40;"), 20, 5, 40, 1, 1);
        chanceIs(passed("g0,9,1,0,40;", 1), 20, 5, 40, 1, 2);
        chanceIs(passed("g0,10,1,0,40;", 1), 20, 5, 40, 1, 1);
        // This one: 20 of what follows in time, none of it 20 late.
        String text = "g0,0,0,0,40;g0,99,1,0,40;f0,1,0;";
        chanceIs(laid(text), 20, 5, 20, 1, 2);
        chanceIs(passed(text, 1), 20, 5, 21, 1, 1);
        // None: it is not late for itself, 99 is no minute.
        chanceIs(laid("g0,99,1,0,40;"), 20, 5, 0, 1, 1);
        chanceIs(laid("g0,99,1,0,40;"), 20, 5, 1, 0, 1);
        HatPins x = passed("g0,60,1,0,30;g0,99,1,0,40;f0,1,9;", 24, 24, 24, 18);
        due("due in 99", x.going(1, 5), 99);
        chanceIs(x, 20, 5, 70, 1, 1);
        x.pass(1);
        // Due in the ninth: 30 were had; 99 to 138 are 40 in time, 119 to 150 are 32 late.
        chanceIs(x, 20, 5, 70, 1, 2);
        // What is over or pinned is not late.
        HatPins y = passed("g0,0,1,0,2;g0,0,1,0,9;l1,0;", 1);
        y.pin(0, 1);
        y.pass(1);
        chanceIs(y, 20, 5, 3, 1, 1);
    }

    private static void lateBy() {
        sentence("is due t (1 to 20) MINUTES later than it is");
        String text = "g0,0,0,0,40;g0,99,1,0,40;f0,1,0;";
        for (int t = 1; t <= 20; t++) {
            chanceIs(laid(text), t, 10, 20 - t, 1, 1);
            chanceIs(laid(text), t, 10, 21 - t, 0, 1);
        }
        for (int t : new int[] {MIN, -1, 0, 21, MAX}) {
            due("late by " + t, laid(text).late(t, 5, 5, 0), BAD);
            due("late by " + t, laid(text).late(t, 5, 5, 1), BAD);
        }
        // Than it is: due in 5 by what it follows, not in 9; 3 were had, 25 to 62 are 38.
        HatPins x = passed("g0,0,1,0,3;g0,9,1,0,40;f0,1,2;", 3);
        chanceIs(x, 20, 10, 41, 1, 1);
        chanceIs(x, 20, 10, 42, 0, 1);
        // Late, it is on sooner by what is over first: due in 28, but then in 5.
        HatPins z = laid("g0,0,1,0,3;g0,8,1,0,40;f0,1,2;");
        z.pass(1);
        chanceIs(z, 20, 10, 43, 1, 1);
        // What follows a late one is as much later: due in 61, or in 60, which is the last.
        HatPins y = passed("g0,0,0,0,1;g0,30,0,0,40;g0,99,1,0,40;f0,1,0;f1,2,0;", 1);
        chanceIs(y, 20, 10, 0, 1, 1);
        chanceIs(y, 20, 10, 1, 0, 1);
        chanceIs(y, 19, 10, 1, 1, 1);
    }

    private static void lateOfTen() {
        sentence("by x (0 to 10) of ten");
        HatPins x = laid("g0,8,1,0,40;");
        int[] above = {1, 9, 4, 7, 3, 1, 2, 3, 1, 1, 0};
        int[] below = {1, 10, 5, 10, 5, 2, 5, 10, 5, 10, 1};
        for (int ofTen = 0; ofTen <= 10; ofTen++) {
            chanceIs(x, 20, ofTen, 40, above[ofTen], below[ofTen]);
            chanceIs(x, 20, ofTen, 32, 1, 1);
            chanceIs(x, 20, ofTen, 41, 0, 1);
        }
        for (int ofTen : new int[] {MIN, -1, 11, MAX}) {
            due("by " + ofTen, x.late(5, ofTen, 5, 0), BAD);
            due("by " + ofTen, x.late(5, ofTen, 5, 1), BAD);
        }
    }

    private static void lateHad() {
        sentence("the chance that h (0 to 999) or more is HAD behind 60 MINUTES");
        String most = "g0,0,20,0,40;g0,0,19,0,10;";
        chanceIs(laid(most + "g0,0,9,0,1;"), 1, 0, 999, 1, 1);
        chanceIs(laid(most + "g0,0,10,0,1;"), 1, 0, 999, 1, 1);
        chanceIs(laid(most + "g0,0,8,0,1;"), 1, 0, 999, 0, 1);
        chanceIs(laid(most + "g0,0,8,0,1;"), 1, 0, 998, 1, 1);
        chanceIs(passed(most + "g0,0,9,0,1;", 24, 24), 1, 0, 999, 1, 1);
        chanceIs(laid("g0,0,0,0,9;"), 1, 5, 0, 1, 1);
        chanceIs(laid("g0,0,0,1,2;"), 1, 5, 0, 0, 1);
        chanceIs(passed("g0,0,0,1,2;", 2), 1, 5, 0, 0, 1);
        for (int h : new int[] {MIN, -1, 1000, MAX}) {
            due("had " + h, laid(most).late(5, 5, h, 0), BAD);
            due("had " + h, laid(most).late(5, 5, h, 1), BAD);
        }
        // 28 to 59 are 32; 60 is behind them.
        chanceIs(laid("g0,8,1,0,40;"), 20, 10, 32, 1, 1);
        chanceIs(laid("g0,8,1,0,40;"), 20, 10, 33, 0, 1);
        chanceIs(laid("g0,59,1,0,40;"), 20, 10, 1, 1, 1);
        chanceIs(laid("g0,60,1,0,40;"), 20, 10, 1, 0, 1);
    }

    private static void lateForItself() {
        sentence("by x (0 to 10) of ten, for itself: the chance that h (0 to 999) or more is HAD behind 60 MINUTES, "
            + "in lowest terms.");
        HatPins two = laid("g0,8,1,0,40;g0,8,2,0,40;");
        chanceIs(two, 20, 5, 120, 1, 4);
        chanceIs(two, 20, 5, 112, 1, 2);
        chanceIs(two, 20, 5, 104, 3, 4);
        chanceIs(two, 20, 5, 96, 1, 1);
        chanceIs(two, 20, 4, 120, 9, 25);
        chanceIs(two, 20, 7, 97, 51, 100);
        String seven = "g0,8,1,0,40;g0,8,1,0,40;g0,8,1,0,40;g0,8,1,0,40;g0,8,1,0,40;g0,8,1,0,40;g0,8,1,0,40;";
        HatPins x = laid(seven);
        chanceIs(x, 20, 3, 280, 823543, 10000000);
        chanceIs(x, 20, 9, 280, 1, 10000000);
        chanceIs(x, 20, 1, 225, 9999999, 10000000);
        chanceIs(x, 20, 2, 280, 16384, 78125);
        chanceIs(x, 20, 0, 280, 1, 1);
        chanceIs(x, 20, 10, 280, 0, 1);
        chanceIs(x, 20, 10, 224, 1, 1);
        for (int part : new int[] {MIN, -1, 2, MAX}) {
            due("part " + part, x.late(1, 1, 1, part), BAD);
        }
    }

    /** The least number by which the draws ahead of the first minutes are so. */
    private static int drawn(IntPredicate... so) {
        for (int z = 0; z <= 9999; z++) {
            int k = 0;
            while (k < so.length && so[k].test(draw(z, k))) {
                k++;
            }
            if (k == so.length) {
                return z;
            }
        }
        wrong("no number draws this");
        return 0;
    }

    private static void seasonIs(HatPins x, int z, int n, int had, int pins) {
        due("season had by " + z + " of " + n, x.season(z, n, 0), had);
        due("season pins by " + z + " of " + n, x.season(z, n, 1), pins);
    }

    private static void seasonBy() {
        sentence("A SEASON by z (0 to 9999)");
        HatPins x = passed("g0,0,1,0,40;l1,0;", 1);
        // 1 is drawn by 0: pinned at once. By 9999 the 23rd draw is 0 or 1, if none ahead of it is.
        seasonIs(x, 0, 1, 10001, 0);
        int ahead = 0;
        while (draw(9999, ahead) % 8 > 1) {
            ahead++;
        }
        seasonIs(x, 9999, ahead + 1, 10001 + ahead, 0);
        if (ahead > 0) {
            seasonIs(x, 9999, ahead, 10001 + ahead, 1);
        }
        for (int z : new int[] {MIN, -1, 10000, MAX}) {
            seasonIs(x, z, 1, BAD, BAD);
        }
    }

    private static void seasonMinutes() {
        sentence("of n (1 to 60) MINUTES from now on (nothing changes by it)");
        String text = "g0,0,1,0,40;g0,59,2,0,9;g0,60,4,0,9;";
        seasonIs(laid(text), 7, 1, 10001, 0);
        seasonIs(laid(text), 7, 59, 10040, 0);
        seasonIs(laid(text), 7, 60, 10042, 0);
        seasonIs(passed(text, 1), 7, 60, 10048, 0);
        for (int n : new int[] {MIN, -1, 0, 61, MAX}) {
            seasonIs(laid(text), 7, n, BAD, BAD);
        }
        for (int what : new int[] {MIN, -1, 2, MAX}) {
            due("season tells no " + what, laid(text).season(7, 60, what), BAD);
        }
        Acts acts = x -> x.pass(3);
        List<List<Integer>> were = whole(acts);
        List<List<Integer>> are = whole(x -> {
            acts.on(x);
            for (int z = 0; z < 20; z++) {
                x.season(z, 60, z % 2);
            }
        });
        due("nothing changes", were.equals(are) ? 1 : 0, 1);
    }

    private static void seasonLadies() {
        sentence("ahead of the k-th (0 first), if there is a LADY, if DRAW modulo 8 is 0 or 1");
        for (int draw = 0; draw < 8; draw++) {
            int of8 = draw;
            int z = drawn(d -> d % 8 == of8);
            seasonIs(passed("g0,0,1,0,40;l1,0;", 1), z, 1, of8 <= 1 ? 10001 : 10002, of8 <= 1 ? 0 : 1);
            seasonIs(passed("g0,0,1,0,40;", 1), z, 1, 10002, 0);
            int second = drawn(d -> d % 8 > 2, d -> d % 8 == of8);
            seasonIs(passed("g0,0,1,0,40;l1,0;", 1), second, 1, 10002, 1);
            seasonIs(passed("g0,0,1,0,40;l1,0;", 1), second, 2, of8 <= 1 ? 10002 : 10003, of8 <= 1 ? 0 : 1);
        }
        // Ahead of minute 0 nothing is on.
        seasonIs(laid("g0,0,1,0,40;l1,0;"), 0, 1, 10001, 1);
    }

    private static void seasonActs() {
        sentence("LADY (DRAW by 8, cut) modulo as many PINS GOING-ON (DRAW by 64, cut) modulo as many");
        // Lady 0 reaches kind 0 alone, lady 1 kind 1, ..: she pins the one of her own number or none.
        String text = "g0,0,1,0,9;g1,0,2,0,9;g2,0,4,0,9;g3,0,8,0,9;l1,0;l1,1;l1,2;l1,3;";
        for (int l = 0; l < 4; l++) {
            for (int g = 0; g < 4; g++) {
                int lady = l;
                int going = g;
                int z = drawn(d -> d % 8 < 2 && d / 8 % 4 == lady && d / 64 % 4 == going);
                seasonIs(passed(text, 1), z, 1, 10015 + 15 - (l == g ? 1 << g : 0), l == g ? 3 : 4);
            }
        }
        // As many: of three ladies and seven.
        String seven = "g0,0,1,0,9;g0,0,2,0,9;g0,0,3,0,9;g0,0,4,0,9;g0,0,5,0,9;g0,0,6,0,9;g0,0,7,0,9;l0,0;l0,0;l1,0;";
        for (int g = 0; g < 7; g++) {
            int going = g;
            int last = drawn(d -> d % 8 < 2 && d / 8 % 3 == 2 && d / 64 % 7 == going);
            seasonIs(passed(seven, 1), last, 1, 10028 + 28 - (g + 1), 0);
            int first = drawn(d -> d % 8 < 2 && d / 8 % 3 == 0 && d / 64 % 7 == going);
            seasonIs(passed(seven, 1), first, 1, 10028 + 28, 1);
        }
    }

    private static void seasonLends() {
        sentence("if 2, she lends one to LADY (DRAW by 64, cut) modulo as many; each if it can be");
        String on = "g0,0,1,0,40;";
        IntPredicate lends = d -> d % 8 == 2 && d / 8 % 2 == 0 && d / 64 % 2 == 1;
        IntPredicate keeps = d -> d % 8 == 2 && d / 8 % 2 == 0 && d / 64 % 2 == 0;
        IntPredicate first = d -> d % 8 < 2 && d / 8 % 2 == 0;
        IntPredicate second = d -> d % 8 < 2 && d / 8 % 2 == 1;
        // Pinned ahead of the second minute, 2 are had, else 3.
        seasonIs(passed(on + "l1,0;l0,0;", 1), drawn(lends, second), 2, 10002, 0);
        seasonIs(passed(on + "l1,0;l0,0;", 1), drawn(lends, first), 2, 10003, 1);
        seasonIs(passed(on + "l0,0;l0,0;", 1), drawn(lends, second), 2, 10003, 0);
        seasonIs(passed(on + "l1,0;l0,0;", 1), drawn(keeps, first), 2, 10002, 0);
        seasonIs(passed(on + "l1,0;l0,0;", 1), drawn(keeps, second), 2, 10003, 1);
        // To one that has 8, but not to one that has 9.
        seasonIs(passed(on + "l1,0;l8,0;", 1), drawn(lends, first), 2, 10003, 9);
        seasonIs(passed(on + "l1,0;l9,0;", 1), drawn(lends, first), 2, 10002, 9);
        // A kind that is not reached, one that is over, one to come: nothing can be.
        seasonIs(passed(on + "l1,1;l1,1;", 1), drawn(first, second), 2, 10003, 2);
        seasonIs(passed("g0,0,1,0,1;l1,0;l1,0;", 1), drawn(first, second), 2, 10001, 2);
        seasonIs(passed("g0,3,1,0,1;l1,0;l1,0;", 1), drawn(first, second), 2, 10000, 2);
        // Pinned once, it is not on.
        seasonIs(passed(on + "l1,0;l1,0;", 1), drawn(first, second), 2, 10001, 1);
    }

    private static void seasonDraws() {
        sentence("DRAW being (x times x) modulo 65521, x 7919 z, 6151 k and 1 together");
        // From z 6 on x times x is more than an int holds.
        String three = "g0,0,9,1,40;g0,0,8,2,40;g1,0,9,3,40;g1,0,8,1,40;g3,10,7,0,40;l2,0;l1,1,3;l3,0,1;";
        String one = "g0,0,9,1,40;g0,0,8,2,40;g0,0,9,3,40;g0,0,8,1,40;g0,0,7,0,40;g0,0,6,0,40;g0,0,5,0,40;l7,0;";
        for (int z : new int[] {0, 1, 5, 6, 7, 1000, 5424, 9998, 9999}) {
            seasonIsAsPlayed(passed(three, 1), z);
            seasonIsAsPlayed(passed(one, 1), z);
        }
    }

    private static void seasonTells() {
        sentence("and 1 together: how much is HAD then, and 10000; how many PINS there are.");
        seasonIs(laid("g0,0,9,0,40;l9,1;l9,1;l9,1;l9,1;"), 1, 60, 10360, 36);
        seasonIs(laid("g0,0,9,0,40;l0,0;l0,1;"), 1, 60, 10360, 0);
        // What was had ahead of it counts: -5, -10, then -15, -20.
        seasonIs(passed("g0,0,0,5,40;l1,1;", 3), 1, 2, 10000 - 5 - 10 - 15 - 20, 1);
    }

    private static void keptMost() {
        sentence("KEPT is all as it stands, but what is NOTED and THE TEXT (these stay by back(), behind which nothing "
            + "can be UNDONE): 2 at most.");
        HatPins x = new HatPins();
        due("one", x.keep(), 1);
        x.pass(5);
        due("two", x.keep(), 2);
        x.pass(5);
        due("three", x.keep(), FULL);
        due("the second", x.back(), 1);
        due("its minute", x.count(2), 5);
        due("again two", x.keep(), 2);
        x.back();
        due("the first", x.back(), 0);
        due("its minute", x.count(2), 0);
        due("none", x.back(), NO);
        refused("a third", y -> {
            y.keep();
            y.pass(9);
            y.pin(0, 0);
            y.keep();
            y.pass(2);
        }, HatPins::keep, FULL);
        refused("back of none", y -> {
            y.keep();
            y.back();
            y.pass(3);
            y.pin(0, 0);
        }, HatPins::back, NO);
        refused("nothing undone behind back", y -> {
            y.pass(3);
            y.keep();
            y.pin(0, 0);
            y.back();
        }, HatPins::undo, NO);
        HatPins z = new HatPins();
        written(z, "g0,");
        z.note(1, 1);
        z.keep();
        written(z, "0,0,0,1;");
        z.note(2, 2);
        z.back();
        due("notes stay", z.count(9), 2);
        due("letters stay", z.count(12), 11);
        due("they are as they were", z.fault(), NONE);
        z.keep();
        z.forget();
        z.wipe();
        z.back();
        due("no notes stay so", z.count(9), 0);
        due("no letters stay so", z.count(12), 0);
    }

    private static void keptAll() {
        sentence("KEPT is all as it stands");
        Acts stands = x -> {
            x.pass(12);
            x.pin(0, 0);
            x.lend(2, 1);
            x.pass(1);
        };
        HatPins as = after(stands);
        for (int i = 0; i < 4; i++) {
            as.undo();
        }
        HatPins x = after(stands);
        x.keep();
        x.pass(24);
        x.pin(1, 3);
        x.lend(0, 1);
        x.pass(24);
        x.back();
        List<Integer> want = told(after(stands));
        want.set(10, 0);
        due("all is as it stood", told(x).equals(want) ? 1 : 0, 1);
        // What is kept is kept so behind acts, and behind what is undone.
        HatPins y = after(stands);
        y.keep();
        y.undo();
        y.undo();
        due("kept behind undo", y.count(11), 1);
        y.pass(3);
        y.back();
        due("all is as it stood behind undo", told(y).equals(want) ? 1 : 0, 1);
    }

    private static void hadAsItIs() {
        sentence("HAD is told as it is and 10000 (of h as it is).");
        HatPins x = passed("g0,0,0,1,40;g0,0,0,1,40;g0,9,0,1,2;l1,0;", 2);
        due("pass", x.pass(1), 10000 - 2 - 4);
        due("count", x.count(7), 9994);
        due("behind", x.behind(1, 0), 9988);
        due("stop", x.stop(2, 1), 9994 - 2 * (3 + 4 + 5 + 6 + 7 + 8 + 9 + 10 + 11 + 12 + 13 + 14 + 15 + 16 + 17 + 18 + 19
            + 20 * 20));
        due("best", x.best(1), 9994 - 1 - (3 + 4 + 5 + 6 + 7 + 8 + 9 + 10 + 11 + 12 + 13 + 14 + 15 + 16 + 17 + 18 + 19
            + 20 * 20));
        due("both", x.both(1), 9993);
        due("never", x.never(1), x.stop(2, 1));
        due("season", x.season(drawn(d -> d % 8 > 2), 1, 0), 9988);
        due("late", x.late(1, 0, 0, 0), 0);
        HatPins most = passed("g2,0,20,5,40;g2,0,20,5,40;g2,0,20,5,40;g2,0,20,5,40;g2,0,20,5,40;g2,0,20,5,40;g2,0,20,5,40;",
            24);
        due("the most that can be had", most.behind(60, 0), 10000 + 7 * (20 + 25 + 30 + 35 + 36 * 40));
        HatPins least = laid("g0,0,0,5,40;g0,0,0,5,40;g0,0,0,5,40;g0,0,0,5,40;g0,0,0,5,40;g0,0,0,5,40;g0,0,0,5,40;");
        due("the least that can be had", least.behind(60, 0), 10000 - 7 * (5 + 10 + 15 + 36 * 20));
    }

    private static void badNumbers() {
        sentence("BAD: a number is none that is told (GOING-ONS, LADIES: such as there are).");
        String text = "g0,0,1,0,40;g1,0,1,0,40;l2,0;l2,1;";
        Acts acts = x -> {
            written(x, text).lay();
            x.pass(1);
        };
        for (int g : new int[] {MIN, -1, 2, 6, 7, MAX}) {
            refused("going of " + g, acts, x -> x.going(g, 0), BAD);
            refused("pin of " + g, acts, x -> x.pin(0, g), BAD);
            refused("stop of " + g, acts, x -> x.stop(g, 0), BAD);
            refused("kinds of " + g, acts, x -> x.kinds(g), BAD);
        }
        for (int l : new int[] {MIN, -1, 2, 3, 4, MAX}) {
            refused("lady " + l, acts, x -> x.lady(l, 0), BAD);
            refused("pin by " + l, acts, x -> x.pin(l, 0), BAD);
            refused("lend by " + l, acts, x -> x.lend(l, 0), BAD);
            refused("lend to " + l, acts, x -> x.lend(0, l), BAD);
        }
        // Such as there are in what is laid, not in the text, nor in what was laid.
        HatPins x = after(acts);
        written(x, "g2,0,1,0,40;l2,2;");
        due("a going-on that is told only", x.going(2, 0), BAD);
        due("a lady that is told only", x.lady(2, 0), BAD);
        x.lay();
        due("a going-on that is laid", x.going(2, 0), 2);
        due("a lady that is laid", x.lady(2, 1), 4);
        x.wipe();
        written(x, "g0,0,1,0,40;").lay();
        due("a going-on that was laid", x.going(1, 0), BAD);
        due("a lady that was laid", x.lady(0, 0), BAD);
    }

    private static void inThisOrder() {
        sentence("NO: not as things stand. NONE: there is none. FULL. Of several the first in this order, "
            + "whatever the order at a call; nothing changes then.");
        Acts full = x -> {
            for (int i = 0; i < 200; i++) {
                x.write('g');
            }
        };
        refused("BAD ahead of FULL: write", full, x -> x.write(31), BAD);
        refused("FULL: write", full, x -> x.write('g'), FULL);
        Acts notes = x -> {
            for (int g = 0; g < 8; g++) {
                x.note(g, 9 - g);
            }
        };
        refused("BAD ahead of FULL: note", notes, x -> x.note(40, 0), BAD);
        refused("BAD ahead of FULL: note", notes, x -> x.note(0, 21), BAD);
        Acts last = x -> {
            for (int i = 0; i < 41; i++) {
                x.pass(24);
            }
            x.pass(15);
        };
        refused("BAD ahead of NO: pass", last, x -> x.pass(0), BAD);
        refused("BAD ahead of NO: pass", last, x -> x.pass(25), BAD);
        Acts over = x -> {
            written(x, "g0,0,1,0,1;g0,0,1,0,9;g0,99,1,0,9;l0,0;l9,0;l1,1;").lay();
            x.pass(1);
        };
        refused("BAD ahead of NO: pin, no such lady, over", over, x -> x.pin(3, 0), BAD);
        refused("BAD ahead of NO: pin, no pin, no such going-on", over, x -> x.pin(0, 3), BAD);
        refused("BAD ahead of NO: lend, to herself, no pin", over, x -> x.lend(0, 0), BAD);
        refused("BAD ahead of NO: lend, no such lady, no pin", over, x -> x.lend(0, 3), BAD);
        refused("BAD ahead of FULL: lend, to herself, nine", over, x -> x.lend(1, 1), BAD);
        refused("BAD ahead of FULL: lend, no such lady, nine", over, x -> x.lend(3, 1), BAD);
        refused("NO ahead of FULL: lend", over, x -> x.lend(0, 1), NO);
        refused("FULL: lend", over, x -> x.lend(2, 1), FULL);
        refused("BAD ahead of NO: stop", over, x -> x.stop(0, 2), BAD);
        refused("NO ahead of NONE: stop", over, x -> x.stop(0, 0), NO);
        refused("BAD ahead of NONE: stop", over, x -> x.stop(2, 2), BAD);
        refused("NONE: stop", over, x -> x.stop(2, 0), NONE);
        refused("BAD ahead of NONE: going", over, x -> x.going(2, 7), BAD);
        refused("NONE: going", over, x -> x.going(2, 5), NONE);
        refused("BAD ahead of NONE: best", over, x -> x.best(2), BAD);
        refused("NONE: best", over, x -> x.best(1), NONE);
        refused("BAD ahead of NONE: both", over, x -> x.both(2), BAD);
        refused("NONE: both", over, x -> x.both(1), NONE);
        refused("BAD ahead of NONE: never", over, x -> x.never(2), BAD);
        refused("NONE: never", over, x -> x.never(1), NONE);
        Acts untrue = x -> {
            x.note(0, 0);
            x.note(0, 1);
        };
        refused("BAD ahead of NONE: waning", untrue, x -> x.waning(2), BAD);
        refused("NONE: waning", untrue, x -> x.waning(1), NONE);
    }
}
