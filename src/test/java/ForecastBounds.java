/** The bounds that part 3 of the Terms names: of what comes, and of what is best. */
public final class ForecastBounds extends Sentences {
    public static void main(String[] args) {
        nothingElse();
        behind();
        dull();
        dullBelow0();
        quiet();
        stopFrom();
        stopBehind60();
        stopFirst();
        stopNone();
        bestFirst();
        bestBehind60();
        bestNone();
        bothFirst();
        bothBehind60();
        bothNone();
        neverFirst();
        neverNone();
        eachWordIsQuoted("======== 3 ", "======== 4 ");
        end("the bounds of what comes are kept");
    }

    private static void nothingElse() {
        sentence("Nothing else being done: BEHIND n (0 to 60) MINUTES how much is HAD; which are ON (bits).");
        Acts acts = x -> {
            x.pass(4);
            x.pin(0, 0);
            x.pass(1);
        };
        HatPins x = after(acts);
        HatPins played = after(acts);
        for (int n = 1; n <= 60; n++) {
            due("had as if they went by: " + n, x.behind(n, 0), played.pass(1));
            due("on as if they went by: " + n, x.behind(n, 1), played.behind(0, 1));
        }
    }

    private static void behind() {
        sentence("BEHIND n (0 to 60) MINUTES");
        HatPins x = laid("g0,0,1,0,40;g0,59,2,0,40;g0,60,4,0,2;");
        due("0 had", x.behind(0, 0), 10000);
        due("0 on", x.behind(0, 1), 0);
        due("1 had", x.behind(1, 0), 10001);
        due("1 on", x.behind(1, 1), 1);
        due("59 had", x.behind(59, 0), 10040);
        due("59 on", x.behind(59, 1), 0);
        due("60 had", x.behind(60, 0), 10042);
        due("60 on", x.behind(60, 1), 2);
        due("61", x.behind(61, 0), BAD);
        due("-1", x.behind(-1, 0), BAD);
        x.pass(1);
        due("0 had behind a minute", x.behind(0, 0), 10001);
        due("0 on behind a minute", x.behind(0, 1), 1);
        due("60 had behind a minute", x.behind(60, 0), 10040 + 4 + 4);
        due("60 on behind a minute", x.behind(60, 1), 6);
        HatPins all = passed("g0,0,1,0,9;g0,0,1,0,9;g0,0,1,0,9;g0,0,1,0,9;g0,0,1,0,9;g0,0,1,0,9;g0,0,1,0,9;", 1);
        due("seven on", all.behind(7, 1), 127);
        due("none of seven on", all.behind(8, 1), 0);
    }

    private static void dull() {
        sentence("DULL: behind how many MINUTES (0 to 60) that which follows is of WORTH below 0 in all first");
        due("0", passed("g0,0,0,1,40;", 1).dull(), 0);
        due("1", laid("g0,0,0,1,40;").dull(), 1);
        due("59", laid("g0,58,0,1,2;").dull(), 59);
        due("60", laid("g0,59,0,1,2;").dull(), 60);
        due("61 is none", laid("g0,60,0,1,2;").dull(), NONE);
        due("61 is 60 behind a minute", passed("g0,60,0,1,2;", 1).dull(), 60);
        due("62 is none behind a minute", passed("g0,60,0,0,1;g0,99,0,1,2;f0,1,0;", 1).dull(), NONE);
        due("the first of several", laid("g0,30,0,1,2;g0,10,0,1,2;g0,20,0,1,2;").dull(), 11);
    }

    private static void dullBelow0() {
        sentence("of WORTH below 0 in all first (all that is ON in it together); none");
        due("nothing is on", laid("g0,99,0,5,9;").dull(), NONE);
        due("0 is not below 0", laid("g0,0,0,0,40;").dull(), NONE);
        due("0 of two is not below 0", laid("g0,0,0,1,2;g0,0,1,0,2;").dull(), NONE);
        due("-1 of two is", laid("g0,0,0,1,3;g0,0,1,0,3;").dull(), 2);
        due("-1 of one is", laid("g0,0,0,1,2;").dull(), 1);
        due("what is over does not count", laid("g0,0,20,0,3;g0,2,0,1,3;").dull(), 3);
        due("what begins then counts", laid("g0,0,0,1,2;g0,1,1,0,1;").dull(), NONE);
        due("what was had does not count", laid("g0,0,20,0,9;g0,9,0,1,2;").dull(), 10);
        due("a flat one never is", laid("g3,0,0,5,40;").dull(), NONE);
    }

    private static void quiet() {
        sentence("QUIET: of the next 60 MINUTES the greatest number one behind the other in which nothing is ON.");
        due("all, as nothing comes", laid("g0,99,1,0,1;").quiet(), 60);
        due("all, as the 61st does not count", laid("g0,60,1,0,1;").quiet(), 60);
        due("all but the last", laid("g0,59,1,0,1;").quiet(), 59);
        due("all but the first", laid("g0,0,1,0,1;").quiet(), 59);
        due("all but the first and the last", laid("g0,0,1,0,1;g0,59,1,0,1;").quiet(), 58);
        due("none", laid("g0,0,1,0,40;g0,40,1,0,20;").quiet(), 0);
        due("one, the last", laid("g0,0,1,0,40;g0,40,1,0,19;").quiet(), 1);
        due("one, the first", laid("g0,1,1,0,40;g0,41,1,0,19;").quiet(), 1);
        due("one between", laid("g0,0,1,0,20;g0,21,1,0,40;").quiet(), 1);
        due("the first is greater", laid("g0,21,1,0,19;g0,60,1,0,1;").quiet(), 21);
        due("the last is greater", laid("g0,19,1,0,20;").quiet(), 21);
        due("not both together", laid("g0,30,1,0,1;").quiet(), 30);
        due("of worth 0 is on", laid("g0,0,0,0,40;g3,40,0,5,20;").quiet(), 0);
        due("of worth below 0 is on", laid("g0,0,0,5,40;g0,40,0,5,20;").quiet(), 0);
        HatPins x = passed("g0,0,1,0,40;l1,0;", 1);
        due("39 minutes of the next", x.quiet(), 21);
        x.pin(0, 0);
        due("all behind a pin", x.quiet(), 60);
    }

    private static void stopIs(String text, int minutes, int had) {
        HatPins x = laid(text);
        due("stop minutes of " + text, x.stop(0, 0), minutes);
        due("stop had of " + text, x.stop(0, 1), had);
    }

    private static void stopFrom() {
        sentence("STOP for a GOING-ON: from behind how many MINUTES (0 to 40) on it should be PINNED");
        HatPins x = passed("g0,0,0,1,40;", 1);
        due("0 of one that is on", x.stop(0, 0), 0);
        due("0 of one that is on, had", x.stop(0, 1), 10000);
        // From 2 on: 2 and 1 are had, 0 and what is below 0 are not; that 0 is left out makes no difference.
        stopIs("g0,0,2,1,40;", 2, 10003);
        stopIs("g0,37,2,1,20;", 39, 10003);
        stopIs("g0,38,2,1,20;", 40, 10003);
        // From 41 on 6 were had, were it told.
        stopIs("g0,38,3,1,20;", 40, 10005);
        // 20, 15, 10, 5, 0, -5, -10, -15 from 40 on: 20 in all, as in its first minute; only from 41 on it were more.
        stopIs("g0,40,20,5,8;", NONE, NONE);
        stopIs("g0,40,20,5,9;", 0, 10020);
    }

    private static void stopBehind60() {
        sentence("it should be PINNED as soon as it is ON (by any PIN) so that most is HAD behind 60 MINUTES");
        stopIs("g0,58,0,5,9;", 0, 10000);
        stopIs("g0,59,0,5,9;", NONE, NONE);
        // What is had in 59 by another counts, what is had in 60 does not.
        stopIs("g0,58,0,5,9;g0,59,7,0,9;", 0, 10007);
        stopIs("g0,58,0,5,9;g0,60,7,0,9;", 0, 10000);
        stopIs("g0,0,0,0,9;g0,60,7,0,9;", NONE, NONE);
        stopIs("g0,0,20,0,40;g0,60,7,0,9;", NONE, NONE);
        // Over in 39, what follows were due in 60 or 59; pinned, it is due sooner.
        stopIs("g0,0,0,0,40;g0,99,20,0,1;f0,1,20;", 0, 10020);
        stopIs("g0,0,0,0,40;g0,99,20,0,1;f0,1,19;", NONE, NONE);
        HatPins x = passed("g0,0,5,1,40;l0,0;l9,1;", 1);
        due("no pin that could be had", x.stop(0, 0), 4);
        due("as if there were", x.stop(0, 1), 10015);
        // It is on when its first minute has gone by.
        stopIs("g0,5,3,5,9;", 0, 10003);
        HatPins y = passed("g0,5,3,5,9;", 5);
        due("its first minute is next", y.stop(0, 1), 10003);
        HatPins z = passed("g0,5,3,5,9;", 6);
        due("its first minute has gone by", z.stop(0, 1), 10003);
    }

    private static void stopFirst() {
        sentence("so that most is HAD behind 60 MINUTES, of several the first: behind how many; how much");
        // From 0 to 6 on it is pinned behind minute 5.
        stopIs("g0,5,0,1,9;", 0, 10000);
        // 1, 0, -1: from 0, from 1 and from 2 on are as good, as it is on when 1 was had.
        stopIs("g0,0,1,1,9;", 0, 10001);
        // 1, 1, 0, 0, -1: from 2, from 3 and from 4 on are as good.
        stopIs("g1,0,1,1,9;", 2, 10002);
        stopIs("g1,10,1,1,9;", 12, 10002);
    }

    private static void stopNone() {
        sentence("how much; none (no better than never PINNED).");
        stopIs("g0,0,0,1,1;", NONE, NONE);
        stopIs("g0,0,0,1,2;", 0, 10000);
        stopIs("g0,0,1,1,2;", NONE, NONE);
        stopIs("g0,0,1,1,3;", 0, 10001);
        stopIs("g0,0,2,1,3;", NONE, NONE);
        stopIs("g0,0,2,1,4;", 2, 10003);
        stopIs("g0,0,0,0,40;", NONE, NONE);
        stopIs("g0,0,20,0,40;", NONE, NONE);
        stopIs("g0,99,0,5,40;", NONE, NONE);
        stopIs("g0,60,0,5,40;", NONE, NONE);
        // Less than nothing is had, but no more by a pin.
        stopIs("g0,0,0,0,9;g0,0,0,5,40;", NONE, NONE);
    }

    private static void bestIs(HatPins x, int who, int had) {
        due("best who", x.best(0), who);
        due("best had", x.best(1), had);
    }

    private static void bestFirst() {
        sentence("of several the first (by the LADY, then the GOING-ON): 10 times the LADY, and the GOING-ON; how much");
        // -1 and -2 are to come of the plain one, 0 and -3 of the slow one.
        String text = "g0,0,0,1,3;g1,0,0,3,3;";
        bestIs(passed(text + "l1,1;l1,0;", 1), 1, 9997);
        bestIs(passed(text + "l1,0;l1,1;", 1), 0, 9997);
        bestIs(passed(text + "l1,0,1;l1,0,1;", 1), 0, 9997);
        bestIs(passed(text + "l0,0,1;l1,0,1;", 1), 10, 9997);
        bestIs(passed("g0,0,0,1,3;g0,0,0,2,3;g0,0,0,2,3;l1,0;", 1), 1, 10000 - 3 - 6);
        String six = "g0,0,1,0,3;g0,0,1,0,3;g0,0,1,0,3;g0,0,1,0,3;g0,0,1,0,3;g0,0,1,0,3;";
        bestIs(passed(six + "g1,0,0,5,3;l9,0;l9,0;l9,0;l1,1;", 1), 36, 10018);
    }

    private static void bestBehind60() {
        sentence("BEST: of all LADIES and GOING-ONS that she could PIN now "
            + "that by which most is HAD behind 60 MINUTES");
        // 0 and 5 are had behind it, in 60 and 61 or in 59 and 60, if it is not pinned; 60 is the last.
        bestIs(passed("g0,0,0,0,40;g2,99,0,5,2;f0,1,20;l1,0;", 1), 0, 10005);
        bestIs(passed("g0,0,0,0,40;g2,99,0,5,2;f0,1,19;l1,0;", 1), NONE, NONE);
        bestIs(passed("g0,0,0,1,2;g0,60,7,0,1;l1,0;", 1), 0, 10007);
        bestIs(passed("g0,0,0,1,2;g0,60,0,0,1;g0,99,7,0,1;f1,2,0;l1,0;", 1), 0, 10000);
    }

    private static void bestNone() {
        sentence("none (she could none, or not more than by none)");
        bestIs(passed("g0,0,0,1,2;", 1), NONE, NONE);
        bestIs(passed("g0,0,0,1,2;l0,0;", 1), NONE, NONE);
        bestIs(passed("g0,0,0,1,2;l9,1,2,3;", 1), NONE, NONE);
        bestIs(laid("g0,0,0,1,2;l1,0;"), NONE, NONE);
        bestIs(passed("g0,0,0,1,2;l1,0;", 2), NONE, NONE);
        bestIs(passed("g0,0,0,1,2;l1,0;", 1), 0, 10000);
        bestIs(passed("g0,0,1,1,2;l1,0;", 1), NONE, NONE);
        bestIs(passed("g0,0,20,0,40;l1,0;", 1), NONE, NONE);
        bestIs(passed("g0,0,0,0,9;g0,0,0,5,40;l1,0;", 1), 1, 10000);
        bestIs(passed("g0,0,0,0,9;g1,0,0,5,40;l1,0;", 1), NONE, NONE);
    }

    private static void bothAre(HatPins x, int which, int had) {
        due("both which", x.both(0), which);
        due("both had", x.both(1), had);
    }

    private static void bothFirst() {
        sentence("of several the first (by the lower one, then the other): 10 times the lower, and the other; how much");
        bothAre(passed("g0,0,1,0,3;g0,0,1,0,3;g0,0,1,0,3;", 1), 1, 10005);
        bothAre(passed("g0,0,1,0,3;g0,0,0,5,3;g0,0,1,0,3;", 1), 1, 10002 + 2);
        bothAre(passed("g0,0,1,0,3;g0,0,1,0,3;g0,0,0,5,3;", 1), 2, 10002 + 2);
        bothAre(passed("g0,0,3,0,3;g0,0,1,0,3;g0,0,1,0,3;", 1), 12, 10005 + 6);
        String five = "g0,0,1,0,3;g0,0,1,0,3;g0,0,1,0,3;g0,0,1,0,3;g0,0,1,0,3;";
        bothAre(passed(five + "g0,0,0,1,3;g0,0,0,1,3;", 1), 56, 10015);
    }

    private static void bothBehind60() {
        sentence("BOTH: of two GOING-ONS that are ON, PINNED both now (whatever PINS there are), "
            + "that by which most is HAD behind 60 MINUTES");
        // Pinned in 1, what follows begins in 19 or 20, is over in 58 or 59; 5 is had in 60 or 61, 60 is the last.
        String text = "g0,0,0,0,9;g0,0,0,0,9;g0,99,0,0,40;g2,99,0,5,2;f2,3,0;";
        bothAre(passed(text + "f0,2,18;", 1), 1, 10005);
        bothAre(passed(text + "f0,2,19;", 1), 1, 10000);
        bothAre(passed("g0,0,0,1,2;g0,0,0,1,2;g0,60,7,0,1;", 1), 1, 10007);
        bothAre(passed("g0,0,0,1,2;g0,0,0,1,2;g0,60,0,0,1;g0,99,7,0,1;f2,3,0;", 1), 1, 10000);
        bothAre(passed("g0,0,0,1,3;g0,0,0,1,3;l0,0;l9,1;", 1), 1, 10000);
        bothAre(passed("g0,0,0,1,3;g0,0,0,1,3;", 1), 1, 10000);
    }

    private static void bothNone() {
        sentence("10 times the lower, and the other; how much; none. NEVER");
        bothAre(laid("g0,0,0,5,9;g0,0,0,5,9;"), NONE, NONE);
        bothAre(passed("g0,0,0,5,9;", 1), NONE, NONE);
        bothAre(passed("g0,0,0,5,9;g0,1,0,5,9;", 1), NONE, NONE);
        bothAre(passed("g0,0,0,5,9;g0,0,0,5,1;", 1), NONE, NONE);
        HatPins x = passed("g0,0,0,5,9;g0,0,0,0,9;g0,0,0,5,9;l1,0;", 1);
        x.pin(0, 0);
        bothAre(x, 12, 10000);
        x.undo();
        bothAre(x, 2, 10000);
        // Two are told, though less is had by them than by none.
        bothAre(passed("g0,0,20,0,9;g0,0,20,0,9;", 1), 1, 10040);
        bothAre(passed("g0,0,0,0,9;g0,0,0,0,9;", 1), 1, 10000);
    }

    private static void neverIs(HatPins x, int which, int had) {
        due("never which", x.never(0), which);
        due("never had", x.never(1), had);
    }

    private static void neverFirst() {
        sentence("NEVER: the GOING-ON that is TO COME by which most were HAD behind 60 MINUTES, did it never begin "
            + "(nor anything by it), of several the lowest: which; how much");
        neverIs(laid("g0,0,0,1,3;g0,0,0,1,3;"), 0, 9997);
        neverIs(laid("g0,0,0,1,3;g0,0,0,2,3;g0,0,0,2,3;"), 1, 10000 - 9);
        neverIs(laid("g0,0,1,0,3;g0,0,1,0,3;g0,0,1,0,3;g0,0,1,0,3;g0,0,1,0,3;g0,0,1,0,3;g0,0,0,1,3;"), 6, 10018);
        // 0 is had in 59, -5 in 59: 59 is the last.
        neverIs(laid("g0,59,0,5,9;"), NONE, NONE);
        neverIs(laid("g0,58,0,5,9;"), 0, 10000);
        neverIs(laid("g0,58,0,5,9;g0,59,7,0,9;"), 0, 10007);
        neverIs(laid("g0,58,0,5,9;g0,60,7,0,9;"), 0, 10000);
        neverIs(laid("g0,0,1,0,3;g0,99,0,5,3;g0,99,0,5,3;f0,1,0;f0,2,0;"), 0, 10000);
        neverIs(laid("g0,0,1,0,3;g0,10,0,5,3;f0,1,0;"), 1, 10003);
    }

    private static void neverNone() {
        sentence("which; how much; none (not more than as it is).");
        neverIs(laid("g0,0,0,0,9;"), NONE, NONE);
        neverIs(laid("g0,0,20,0,9;g0,9,20,0,9;"), NONE, NONE);
        neverIs(laid("g0,0,0,1,2;"), 0, 10000);
        neverIs(laid("g0,0,1,1,3;"), NONE, NONE);
        neverIs(laid("g0,99,0,5,9;"), NONE, NONE);
        neverIs(passed("g0,0,0,5,40;", 1), NONE, NONE);
        neverIs(passed("g0,0,0,5,40;g0,1,1,0,1;", 1), NONE, NONE);
        neverIs(passed("g0,0,0,1,3;", 3), NONE, NONE);
        HatPins x = passed("g0,0,0,5,40;l1,0;", 1);
        x.pin(0, 0);
        neverIs(x, NONE, NONE);
    }
}
