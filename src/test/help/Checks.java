/** What the tests share: answers that are due, what they are bound to, objects with an evening laid. */
class Checks {
    static final int BAD = -1, NO = -2, FULL = -3, NONE = -4;
    static final int MIN = Integer.MIN_VALUE, MAX = Integer.MAX_VALUE;

    private static int wrong = 0;
    private static String bound = "";

    /** What the tests that follow are bound to; told with an answer that is wrong. */
    static void bind(String to) {
        bound = to;
    }

    static void wrong(String what) {
        wrong++;
        System.out.println(bound + ": " + what);
    }

    static void due(String what, int got, int want) {
        if (got != want) {
            wrong(what + " answered " + got + ", due is " + want);
        }
    }

    static HatPins written(HatPins x, String text) {
        for (int i = 0; i < text.length(); i++) {
            x.write(text.charAt(i));
        }
        return x;
    }

    static HatPins laid(String text) {
        HatPins x = written(new HatPins(), text);
        if (x.lay() < 1) {
            wrong("not laid: " + text);
        }
        return x;
    }

    static HatPins passed(String text, int... minutes) {
        HatPins x = laid(text);
        for (int n : minutes) {
            x.pass(n);
        }
        return x;
    }

    static void chanceIs(HatPins x, int t, int ofTen, int h, int above, int below) {
        String call = "late " + t + " " + ofTen + " " + h;
        due(call + " above", x.late(t, ofTen, h, 0), above);
        due(call + " below", x.late(t, ofTen, h, 1), below);
    }

    static int draw(int z, int k) {
        long x = (7919L * z + 6151L * k + 1) % 65521;
        return (int) (x * x % 65521);
    }

    /** The season is that which is played by the other calls of the class; it is played then. */
    static void seasonIsAsPlayed(HatPins x, int z) {
        int had = x.season(z, 60, 0);
        int pins = x.season(z, 60, 1);
        int goings = x.count(0);
        int ladies = x.count(1);
        for (int k = 0; k < 60; k++) {
            int draw = draw(z, k);
            if (draw % 8 < 2) {
                x.pin(draw / 8 % ladies, draw / 64 % goings);
            } else if (draw % 8 == 2) {
                x.lend(draw / 8 % ladies, draw / 64 % ladies);
            }
            x.pass(1);
        }
        due("had in the season of " + z, had, x.count(7));
        due("pins in the season of " + z, pins, x.count(8));
    }

    /** Tells how it went; the machine ends with 1 if an answer was wrong. */
    static void end(String kept) {
        System.out.println(wrong == 0 ? kept : wrong + " answers are wrong");
        if (wrong != 0) {
            System.exit(1);
        }
    }
}
