/** The bounds that part 1 of the Terms names: of a text, of each number in an item, of how many items. */
public final class TextBounds extends Sentences {
    private static final String TWO = "g0,0,0,0,1;g0,0,0,0,1;";

    public static void main(String[] args) {
        calls();
        letters();
        figures();
        parts();
        kindOfItem();
        kind();
        begins();
        interest();
        wanes();
        length();
        manyGoings();
        unlikeToldAhead();
        gap();
        manyFollowing();
        pins();
        reaches();
        manyLadies();
        fault();
        laid();
        eachWordIsQuoted("======== 1 ", "======== 2 ");
        end("the bounds of a text are kept");
    }

    private static void faultIs(String text, int want) {
        due("fault of " + text, written(new HatPins(), text).fault(), want);
    }

    /** The item is not so, as the first one and behind two others. */
    private static void isNot(String item) {
        faultIs(item, 0);
        faultIs(TWO + item, TWO.length());
        HatPins x = written(new HatPins(), TWO + item);
        due("lay of " + TWO + item, x.lay(), NO);
        due("as laid before " + item, x.count(0), 5);
    }

    private static void isSo(String item) {
        faultIs(TWO + item, NONE);
        due("lay of " + TWO + item, written(new HatPins(), TWO + item).lay() >= 2 ? 2 : NO, 2);
    }

    /** One going-on is laid, and tells this. */
    private static void tells(String item, int what, int want) {
        due(item + " tells " + what, laid(item).going(0, what), want);
    }

    private static String times(int n, String item) {
        StringBuilder all = new StringBuilder();
        for (int i = 0; i < n; i++) {
            all.append(item);
        }
        return all.toString();
    }

    private static void calls() {
        sentence("An object is used for at most 512 calls after it has been made");
        HatPins x = laid("g0,0,9,1,20;l9,0;");
        int made = "g0,0,9,1,20;l9,0;".length() + 1;
        for (int call = made + 1; call < 509; call++) {
            x.behind(call % 61, call % 2);
        }
        due("call 509", x.pass(1), 10009);
        due("call 510", x.pin(0, 0), 8);
        due("call 511", x.undo(), 1);
        due("call 512", x.count(2), 1);
    }

    private static void letters() {
        sentence("A TEXT is letters (200 at most)");
        String full = times(6, "g00,00,00,00,01;") + "g0,0,0,0,1;" + "f00,1,20;" + times(5, "f0,1,20;")
            + times(4, "l9,0,1,2,3;");
        due("as many as can be", full.length(), 200);
        faultIs(full, NONE);
        HatPins x = written(new HatPins(), full);
        due("letter 201", x.write('g'), FULL);
        due("all of it is laid", x.lay(), 7);
        due("ladies too", x.count(1), 4);
        HatPins y = written(new HatPins(), full.substring(0, 199));
        due("199: the last item has no end", y.fault(), 189);
        due("letter 200", y.write(';'), 200);
        due("200: it has", y.fault(), NONE);
        HatPins z = written(new HatPins(), full.substring(0, 199) + "1");
        due("200 without an end", z.fault(), 189);
        faultIs("", NONE);
        faultIs("g", 0);
        faultIs(times(200, "g"), 0);
    }

    private static void figures() {
        sentence("numbers (one or two figures)");
        isSo("g0,0,0,0,1;");
        isSo("g00,00,00,00,01;");
        isSo("l09,00;");
        isSo("f00,01,00;");
        isNot("g,0,0,0,1;");
        isNot("g0,,0,0,1;");
        isNot("g0,0,0,0,;");
        isNot("g000,0,0,0,1;");
        isNot("g0,0,000,0,1;");
        isNot("g0,0,0,0,001;");
        isNot("l009,0;");
        isNot("l9,000;");
        isNot("l9,;");
        isNot("f0,1,000;");
        isNot("g0,0,0,0,/;");
        isNot("g0,0,0,0,1/;");
        isNot("g0,0,0,0,1:;");
        isNot("g0,0,0,0,:;");
        isSo("g0,10,19,5,39;");
        tells("g0,09,19,5,39;", 5, 9);
        tells("g0,10,19,5,39;", 1, 19);
    }

    private static void parts() {
        sentence("each a letter, then numbers (one or two figures) parted by , and a ; behind the last one");
        isNot("g0,0,0,0,1");
        isNot("g0,0,0,0,1,");
        isNot("g0,0,0,0,1,;");
        isNot("g0,0,0,0;");
        isNot("g0,0,0,0,1,1;");
        isNot("g0;");
        isNot("g;");
        isNot("g");
        isNot("g0.0,0,0,1;");
        isNot("g0 0,0,0,1;");
        isNot("g0;0,0,0,1;");
        isNot("g 0,0,0,0,1;");
        isNot("g,0,0,0,0,1;");
        isNot("f0,1;");
        isNot("f0,1,0,0;");
        isNot("f0,1,0");
        isNot("l1;");
        isNot("l1");
        isNot("l1,0");
        isNot("l1,0 ;");
        isNot(" ");
        isNot(";");
    }

    private static void kindOfItem() {
        sentence("ITEMS one behind the other, each a letter");
        for (char letter = 32; letter <= 126; letter++) {
            boolean known = letter == 'g' || letter == 'f' || letter == 'l';
            faultIs(TWO + letter + "0,1,2,3,4;", letter == 'g' ? NONE : TWO.length());
            faultIs(TWO + letter + "0,1,2;", known && letter != 'g' ? NONE : TWO.length());
        }
        due("the same kinds one behind the other or not",
            written(new HatPins(), "l1,0;g0,0,0,0,1;l1,0;g0,0,0,0,1;f0,1,0;g0,0,0,0,1;f2,0,0;l1,0;").lay(), 3);
    }

    private static void kind() {
        sentence("gK,B,I,W,L a GOING-ON of KIND K (0 PLAIN, 1 SLOW, 2 RISING, 3 FLAT)");
        int[] numbers = {3, 11, 4, 25, 0, 7};
        for (int what = 0; what < numbers.length; what++) {
            tells("g3,7,11,4,25;", what, numbers[what]);
        }
        for (int kind = 0; kind <= 3; kind++) {
            tells("g" + kind + ",0,0,0,1;", 0, kind);
        }
        isNot("g4,0,0,0,1;");
        isNot("g10,0,0,0,1;");
        isNot("g-1,0,0,0,1;");
    }

    private static void begins() {
        sentence("that BEGINS in MINUTE B (0 to 60; 99: only as it FOLLOWS)");
        tells("g0,0,0,0,1;", 5, 0);
        tells("g0,60,0,0,1;", 5, 60);
        tells("g0,99,0,0,1;", 5, NONE);
        isNot("g0,61,0,0,1;");
        isNot("g0,98,0,0,1;");
        isNot("g0,100,0,0,1;");
        isNot("g0,-1,0,0,1;");
        due("99 is no minute", passed("g0,99,7,0,1;", 24, 24, 24, 24, 24).count(3), 1);
    }

    private static void interest() {
        sentence("INTEREST I (0 to 20)");
        tells("g0,0,0,0,1;", 1, 0);
        tells("g0,0,20,0,1;", 1, 20);
        isNot("g0,0,21,0,1;");
        isNot("g0,0,-1,0,1;");
    }

    private static void wanes() {
        sentence("WANES by W (0 to 5)");
        tells("g0,0,0,0,1;", 2, 0);
        tells("g0,0,0,5,1;", 2, 5);
        isNot("g0,0,0,6,1;");
        isNot("g0,0,0,-1,1;");
    }

    private static void length() {
        sentence("is L (1 to 40) MINUTES long");
        tells("g0,0,0,0,1;", 3, 1);
        tells("g0,0,0,0,40;", 3, 40);
        isNot("g0,0,0,0,0;");
        isNot("g0,0,0,0,00;");
        isNot("g0,0,0,0,41;");
        isNot("g0,0,0,0,99;");
    }

    private static void manyGoings() {
        sentence("MINUTES long; 7 at most, 0, 1, ..");
        String seven = "";
        for (int g = 0; g < 7; g++) {
            due(g + " of them", g == 0 ? NO : written(new HatPins(), seven).lay(), g == 0 ? NO : g);
            seven += "g0,0," + (10 + g) + ",0,1;";
        }
        HatPins x = written(new HatPins(), seven);
        due("seven", x.lay(), 7);
        due("the first is 0", x.going(0, 1), 10);
        due("the last is 6", x.going(6, 1), 16);
        due("there is no 7", x.going(7, 1), BAD);
        due("there is no -1", x.going(-1, 1), BAD);
        faultIs(seven + "g0,0,0,0,1;", seven.length());
        faultIs(seven + "l0,0;g0,0,0,0,1;", seven.length() + 5);
        faultIs(seven + "l0,0;f6,0,1;", NONE);
    }

    private static void unlikeToldAhead() {
        sentence("fA,B,D B FOLLOWS A (unlike, told ahead)");
        due("0 follows 1", passed("g0,99,0,0,1;g0,0,0,0,1;f1,0,7;", 1).going(0, 5), 8);
        due("1 does not follow 0", passed("g0,0,0,0,1;g0,99,0,0,1;f1,0,7;", 1).going(1, 5), NONE);
        isSo("f0,1,0;");
        isSo("f1,0,0;");
        isSo("f0,1,0;f0,1,0;");
        isNot("f0,0,0;");
        isNot("f1,1,0;");
        isNot("f1,01,0;");
        isNot("f0,2,0;");
        isNot("f2,0,0;");
        isNot("f0,2,0;g0,0,0,0,1;");
        isNot("f2,0,0;g0,0,0,0,1;");
        isNot("f0,99,0;");
        isNot("f99,0,0;");
        isNot("f-1,0,0;");
        isSo("g0,0,0,0,1;f2,0,0;f0,2,0;");
        faultIs("g0,0,0,0,1;f0,1,0;" + "g0,0,0,0,1;", 11);
    }

    private static void gap() {
        sentence("D (0 to 20) MINUTES behind");
        isNot("f0,1,21;");
        isNot("f0,1,99;");
        isNot("f0,1,-1;");
        // Over in 0, so 1 is next.
        due("none behind", passed("g0,0,0,0,1;g0,99,0,0,1;f0,1,0;", 1).going(1, 5), 1);
        due("20 behind", passed("g0,0,0,0,1;g0,99,0,0,1;f0,1,20;", 1).going(1, 5), 21);
    }

    private static void manyFollowing() {
        sentence("MINUTES behind; 6 at most");
        String ahead = TWO + TWO + "g0,0,0,0,1;g0,99,0,0,9;";
        faultIs(ahead + times(6, "f0,1,0;"), NONE);
        faultIs(ahead + times(7, "f0,1,0;"), ahead.length() + 42);
        faultIs(ahead + times(6, "f0,1,0;") + "l0,0;f0,1,0;", ahead.length() + 47);
        HatPins x = passed(ahead + times(5, "f0,1,0;") + "f4,5,3;", 1);
        due("the sixth counts", x.going(5, 5), 4);
    }

    private static void pins() {
        sentence("lN,R,.. a LADY with N (0 to 9) PINS");
        due("none", laid("g0,0,0,0,1;l0,0;").lady(0, 0), 0);
        due("nine", laid("g0,0,0,0,1;l9,0;").lady(0, 0), 9);
        isNot("l10,0;");
        isNot("l99,0;");
        isNot("l-1,0;");
    }

    private static void reaches() {
        sentence("who reaches KINDS R (1 to 4 unlike ones)");
        due("the first kind", laid("g0,0,0,0,1;l0,0;").lady(0, 1), 1);
        due("the last kind", laid("g0,0,0,0,1;l0,3;").lady(0, 1), 8);
        due("three", laid("g0,0,0,0,1;l0,3,0,1;").lady(0, 1), 11);
        due("four", laid("g0,0,0,0,1;l0,3,2,0,1;").lady(0, 1), 15);
        isNot("l0;");
        isNot("l0,4;");
        isNot("l0,0,4;");
        isNot("l0,32;");
        isNot("l0,99;");
        isNot("l0,0,0;");
        isNot("l0,3,3;");
        isNot("l0,0,1,2,0;");
        isNot("l0,0,1,2,02;");
        isNot("l0,0,1,2,3,0;");
        isNot("l0,0,1,2,3,4;");
        isNot("l0,0,1,2,3,3,3;");
    }

    private static void manyLadies() {
        sentence("unlike ones); 4 at most, 0, 1, ..");
        HatPins x = laid("g0,0,0,0,1;l5,0;l6,1;l7,2;l8,3;");
        due("four", x.count(1), 4);
        due("the first is 0", x.lady(0, 0), 5);
        due("the last is 3", x.lady(3, 0), 8);
        due("there is no 4", x.lady(4, 0), BAD);
        due("there is no -1", x.lady(-1, 0), BAD);
        due("there need be none", laid("g0,0,0,0,1;").count(1), 0);
        due("nor is there then", laid("g0,0,0,0,1;").lady(0, 0), BAD);
        faultIs(times(4, "l0,0;") + "l0,0;", 20);
        faultIs(times(4, "l0,0;") + "g0,0,0,0,1;l0,0;", 31);
    }

    private static void fault() {
        sentence("FAULT: the place (from 0 on) of the first letter of the first ITEM that is not so");
        faultIs("x", 0);
        faultIs("g0,0,0,0,1;x", 11);
        faultIs("g0,0,0,0,1;g0,0,0,0,41;x", 11);
        faultIs("g0,0,0,0,1;g0,0,0,0,40;x", 23);
        faultIs("g0,0,0,0,1;g0,0,0,0,40", 11);
        faultIs(TWO + times(25, "l0,0;") + "l0,", 42);
        due("of all 200", written(new HatPins(), times(17, "g0,0,0,0,1;") + "l1,0;l1,0;xxx").fault(), 77);
        due("in the last letter", written(new HatPins(), times(7, "g0,0,0,0,1;") + times(6, "f0,1,10;")
            + times(4, "l9,00,01,02,3;") + times(20, "x")).fault(), 77 + 48 + 56);
        String ahead = times(6, "g00,00,00,00,01;") + "g0,0,0,0,1;" + times(6, "f0,1,20;") + times(4, "l9,0,1,2,3;");
        due("at the last place", written(new HatPins(), ahead + "g").fault(), 199);
    }

    private static void laid() {
        sentence("LAID is a TEXT without FAULT, of a GOING-ON at least (NO else; at first "
            + "g0,0,9,1,20;g1,3,6,2,15;g2,99,2,1,12;g3,10,5,1,30;g0,99,14,3,10;f0,2,2;f1,4,5;f2,4,1;"
            + "l2,0,1;l1,2,3;l3,0;).");
        due("one", written(new HatPins(), "g0,0,0,0,1;").lay(), 1);
        refused("none in the empty text", x -> { }, HatPins::lay, NO);
        refused("none by a lady alone", x -> written(x, "l9,0;"), HatPins::lay, NO);
        refused("none by four ladies", x -> written(x, times(4, "l9,0;")), HatPins::lay, NO);
        refused("one, and a fault", x -> written(x, "g0,0,0,0,1;g0,0,0,0,0;"), HatPins::lay, NO);
        String first = "g0,0,9,1,20;g1,3,6,2,15;g2,99,2,1,12;g3,10,5,1,30;g0,99,14,3,10;f0,2,2;f1,4,5;f2,4,1;"
            + "l2,0,1;l1,2,3;l3,0;";
        Acts minutes = x -> {
            x.pass(24);
            x.pass(1);
        };
        Acts again = x -> {
            written(x, first).lay();
            x.wipe();
            minutes.on(x);
        };
        due("the first evening is this one", whole(minutes).equals(whole(again)) ? 1 : 0, 1);
    }
}
