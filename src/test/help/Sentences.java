import java.io.IOException;
import java.nio.file.Files;
import java.nio.file.Path;
import java.util.ArrayList;
import java.util.Arrays;
import java.util.List;
import java.util.function.ToIntFunction;
import java.util.regex.Matcher;
import java.util.regex.Pattern;

/** Tests bound to sentences of the document, by their words; and that a call that is refused changes nothing. */
class Sentences extends Checks {
    /** What is done with a new object ahead of a test. */
    interface Acts {
        void on(HatPins x);
    }

    private static final Path DOC = Path.of("../shared/DOC.md");
    private static final Pattern BOUND =
        Pattern.compile("[0-9]+ to [0-9]+|at most|at least|\\bBAD\\b|\\bNO\\b|\\bFULL\\b|\\bNONE\\b|\\bnone\\b|below 0");
    private static final Pattern WORD = Pattern.compile("[A-Za-z0-9]+");

    private static String doc = null;
    private static boolean[] quoted = {};

    private static String plain(String text) {
        return text.replace("```text", "").replace("```", "").replaceAll("\\s+", " ");
    }

    private static String doc() {
        if (doc == null) {
            try {
                doc = plain(Files.readString(DOC));
            } catch (IOException e) {
                // The answers can be held against what is due all the same.
                doc = "";
                System.out.println("can't be read, so no words are looked up in it: " + DOC);
            }
            quoted = new boolean[doc.length()];
        }
        return doc;
    }

    /** The tests that follow are bound to these words, which stand in the document. */
    static void sentence(String words) {
        bind(words);
        if (doc().isEmpty()) {
            return;
        }
        String sought = plain(words);
        int at = doc().indexOf(sought);
        if (at < 0) {
            wrong("the document does not say this");
            return;
        }
        Arrays.fill(quoted, at, at + sought.length(), true);
    }

    /** Each word that names a bound, from this heading of the document to that one, stands in a sentence with a test. */
    static void eachBoundIsQuoted(String from, String to) {
        bind("each bound from " + from + " to " + to);
        eachIsQuoted(BOUND, from, to);
    }

    /** As eachBoundIsQuoted, of all words. */
    static void eachWordIsQuoted(String from, String to) {
        bind("each word from " + from + " to " + to);
        eachIsQuoted(WORD, from, to);
    }

    private static void eachIsQuoted(Pattern sought, String from, String to) {
        if (doc().isEmpty()) {
            return;
        }
        int first = doc().indexOf(from);
        int last = doc().indexOf(to);
        if (first < 0 || last < first) {
            wrong("the document has no such headings");
            return;
        }
        Matcher m = sought.matcher(doc());
        m.region(first + from.length(), last);
        while (m.find()) {
            if (!quoted[m.start()] || !quoted[m.end() - 1]) {
                wrong("no test of " + doc().substring(m.start(), Math.min(m.end() + 40, last)));
            }
        }
    }

    static HatPins after(Acts acts) {
        HatPins x = new HatPins();
        acts.on(x);
        return x;
    }

    /** What an object tells of how it stands and what comes, in some 130 calls. */
    static List<Integer> told(HatPins x) {
        List<Integer> all = new ArrayList<>();
        for (int what = 0; what <= 12; what++) {
            all.add(x.count(what));
        }
        for (int g = 0; g < x.count(0); g++) {
            for (int what = 0; what <= 6; what++) {
                all.add(x.going(g, what));
            }
            all.add(x.stop(g, 0));
            all.add(x.stop(g, 1));
            all.add(x.kinds(g));
        }
        for (int l = 0; l < x.count(1); l++) {
            for (int what = 0; what <= 2; what++) {
                all.add(x.lady(l, what));
            }
        }
        for (int what = 0; what <= 1; what++) {
            all.add(x.behind(1, what));
            all.add(x.behind(60, what));
            all.add(x.best(what));
            all.add(x.both(what));
            all.add(x.never(what));
            all.add(x.waning(what));
            all.add(x.late(7, 3, 30, what));
            all.add(x.season(4711, 60, what));
        }
        all.add(x.dull());
        all.add(x.quiet());
        all.add(x.fault());
        return all;
    }

    /** How an object stands, and all that lies behind it: what can be undone, what is kept, the text when it is laid. */
    static List<List<Integer>> whole(Acts acts) {
        List<List<Integer>> all = new ArrayList<>();
        all.add(told(after(acts)));
        HatPins counted = after(acts);
        for (int undone = 1; undone <= counted.count(10); undone++) {
            HatPins x = after(acts);
            for (int i = 0; i < undone; i++) {
                x.undo();
            }
            all.add(told(x));
        }
        for (int back = 1; back <= counted.count(11); back++) {
            HatPins x = after(acts);
            for (int i = 0; i < back; i++) {
                x.back();
            }
            all.add(told(x));
        }
        HatPins again = after(acts);
        all.add(List.of(again.lay()));
        all.add(told(again));
        return all;
    }

    /** As whole, of what stands behind these acts and one call more. */
    private static List<List<Integer>> wholeBehind(Acts acts, ToIntFunction<HatPins> call) {
        return whole(x -> {
            acts.on(x);
            call.applyAsInt(x);
        });
    }

    /** The call answers so, and nothing has changed behind it. */
    static void refused(String what, Acts acts, ToIntFunction<HatPins> call, int answer) {
        due(what, call.applyAsInt(after(acts)), answer);
        if (!whole(acts).equals(wholeBehind(acts, call))) {
            wrong(what + " has changed something");
        }
    }
}
