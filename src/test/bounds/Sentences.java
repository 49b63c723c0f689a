import java.io.IOException;
import java.nio.file.Files;
import java.nio.file.Path;
import java.util.ArrayList;
import java.util.List;

/** Holds answers against sentences of the document; each is quoted as it stands there. */
final class Sentences {
    static final int NONE = -1, UNKNOWN = -1000000001, OUTSIDE = -1000000002, NOT = -1000000003, FULL = -1000000004;
    static final int LEAST = Integer.MIN_VALUE, MOST = Integer.MAX_VALUE;
    /** Four stations, limit 3: who stand at 0, 1, 3, 0 want to 3, 3, 0, 1; 1 is met by 0; 2 waits. */
    static final String FOUR = "s4 3 0;p0 3 9 0 0;p1 3 0 2 0;p3 0 9 3 0;p0 1 9 1 0;";

    /** One call on an object. */
    interface Call {
        int on(SpiteLine x);
    }

    private final String document;
    private final List<Integer> places = new ArrayList<>();
    private String sentence = "";
    private int held = 0;
    private int wrong = 0;

    Sentences(Path path) throws IOException {
        document = folded(Files.readString(path));
    }

    private static String folded(String text) {
        return text.replaceAll("\\s+", " ");
    }

    /** The answers that follow are due by this sentence. */
    void says(String quoted) {
        endOfSentence();
        sentence = quoted;
        held = 0;
        int place = document.indexOf(folded(quoted));
        if (place < 0) {
            blame("does not stand in the document");
        }
        places.add(place);
    }

    private void endOfSentence() {
        if (!sentence.isEmpty() && held == 0) {
            blame("has no test");
        }
    }

    private void blame(String what) {
        wrong++;
        System.out.println("\"" + sentence + "\": " + what);
    }

    void due(String call, int got, int want) {
        held++;
        if (got != want) {
            blame(call + " answered " + got + ", due is " + want);
        }
    }

    void due(String call, int[] got, int[] want) {
        due(call + ", how many", got.length, want.length);
        for (int i = 0; i < got.length && i < want.length; i++) {
            due(call + ", number " + i, got[i], want[i]);
        }
    }

    // ---- texts

    static void feedAll(SpiteLine x, String text) {
        for (int i = 0; i < text.length(); i++) {
            x.feed(text.charAt(i));
        }
    }

    static int tell(SpiteLine x, String text) {
        feedAll(x, text);
        return x.line();
    }

    SpiteLine told(String text) {
        SpiteLine x = new SpiteLine();
        int answer = tell(x, text);
        if (answer < 0) {
            due("line() of '" + text + "'", answer, 0);
        }
        return x;
    }

    /** The text is read, on a new object and on one that has a line and a fault. */
    void reads(String text, int persons) {
        SpiteLine fresh = new SpiteLine();
        SpiteLine used = told(FOUR);
        tell(used, "?");
        for (SpiteLine x : new SpiteLine[] {fresh, used}) {
            due("line() of '" + text + "'", tell(x, text), persons);
            due("fault() of '" + text + "'", x.fault(), NONE);
            due("told(3) of '" + text + "'", x.told(3), persons);
            due("told(4) of '" + text + "'", x.told(4), 0);
        }
    }

    /** The text has this fault at this letter, and the line stays as it was. */
    void fails(String text, int kind, int place) {
        SpiteLine x = told(FOUR);
        int[] before = lineOf(x);
        due("line() of '" + text + "'", tell(x, text), -10 - kind);
        due("fault() of '" + text + "'", x.fault(), place);
        due("told(4) of '" + text + "'", x.told(4), 0);
        due("the line behind '" + text + "'", lineOf(x), before);
    }

    // ---- all that can be seen

    /** Of the line: all that told(), person(), station() tell. */
    static int[] lineOf(SpiteLine x) {
        List<Integer> all = new ArrayList<>();
        for (int what = 0; what <= 11; what++) {
            all.add(x.told(what));
        }
        int persons = x.told(3);
        for (int p = 0; p < persons; p++) {
            for (int what = 0; what <= 7; what++) {
                all.add(x.person(p, what));
            }
        }
        int stations = x.told(0);
        for (int k = 0; k < stations; k++) {
            all.add(x.station(k, 0));
            all.add(x.station(k, 1));
        }
        return all.stream().mapToInt(Integer::intValue).toArray();
    }

    /** Of persons: where each stands. */
    static int[] placesOf(SpiteLine x) {
        int[] where = new int[x.told(3)];
        for (int p = 0; p < where.length; p++) {
            where[p] = x.person(p, 0);
        }
        return where;
    }

    void stand(String when, SpiteLine x, int... where) {
        due("where they stand " + when, placesOf(x), where);
    }

    // ---- the end

    /** How many answers were wrong, with sentences without a test and promises without a sentence. */
    int end() {
        endOfSentence();
        sentence = "promises";
        for (int k = 1; document.contains(heading(k)); k++) {
            int from = document.indexOf(heading(k));
            int next = document.indexOf("## ", from + 3);
            int to = next < 0 ? document.length() : next;
            if (places.stream().noneMatch(place -> place > from && place < to)) {
                blame("promise " + k + " has no sentence here");
            }
        }
        System.out.println(places.size() + " sentences held against the class, " + wrong + " faults");
        return wrong;
    }

    private static String heading(int promise) {
        return "## Promise " + promise + ":";
    }
}
