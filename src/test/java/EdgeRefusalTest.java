import java.util.ArrayList;
import java.util.Arrays;
import java.util.List;

/** The bounds that terms 2 name of SHEETS and REFUSALS, and what changes nothing. */
public final class EdgeRefusalTest {
    /** A call by its name and numbers each; all of them are refused by what made() makes. */
    private static final String[] REFUSED = {
        "count -1", "count 5", "feed 0 1 1 1 1 1", "feed 6 1 1 1 1 1", "feed 1 256 1 1 1 1", "feed 1 1 1 1 1 -1", "force -1",
        "force 2", "asks 0 48 0", "asks 3 0 0", "asks 0 0 100", "knit -1 1 1", "knit 48 1 1", "knit 9 6 1", "knit 9 -1 1",
        "knit 9 1 10", "knit 9 1 -1", "row -1 1 1", "row 8 1 1", "row 1 6 1", "row 1 -1 1", "row 1 1 10", "row 1 1 -1",
        "told 48 0", "told 0 6", "pin -1 1", "pin 48 1", "pin 0 2", "pin 0 -1", "pin 20 2", "hangs 48 0", "hangs 0 3", "back 48",
        "run 48 0 0", "run 0 100 0", "run 0 0 4", "goes 48 0 0", "goes 0 100 0", "goes 0 0 2", "left 0 0 48", "left 0 100 0",
        "most 100 0", "most 0 2", "column 6 0 0", "column 0 100 0", "column 0 0 2", "line 48 0", "line 0 49", "reach 48 0",
        "reach 0 48", "two 100 0", "two 0 3", "all 48", "counts 8 0", "counts 0 3", "slip 4", "slip 3", "slip 0",
        "pinned 48 0 0 0", "pinned 0 100 0 0", "pinned 0 0 49 0", "pinned 0 0 0 3", "mending 48 0 0", "mending 0 100 0",
        "mending 0 0 2", "mend -1 0", "mend 48 0", "mend 0 -1", "mend 0 100", "slack 48 0", "slack 0 100", "judge 4 0 0",
        "judge 3 0 0", "judge 1 0 0", "judge 0 48 0", "judge 0 0 100", "which 3 0", "which 0 100", "span 3 0 0", "span 1 0 0",
        "span 0 48 0", "span 0 0 2", "laws 3 0 0", "laws 0 48 0", "laws 0 0 100", "film -1 0 0", "film 4 0 0", "film 1 48 0",
        "film 1 0 100", "film 3 -1 0", "film 3 0 -1", "slips -1 0 0 0", "slips 0 48 0 0", "slips 0 0 100 0", "slips 0 0 0 101",
        "odds 0 51 0 0 0 0", "odds 0 1 48 0 0 0", "sheet -1 0 1", "sheet 4 0 1", "sheet 2 3 1", "sheet 2 -2 1", "sheet 2 1 49",
        "sheet 2 1 -1", "sheet 3 0 49", "sheet 3 0 -1", "cell 4 0 1", "cell 3 0 1", "cell 2 6 1", "cell 2 -1 1", "cell 1 8 1",
        "copy 4 0 1 0 1", "copy 0 0 4 0 1", "copy 3 0 0 0 1", "copy 0 0 3 0 1", "copy 0 0 1 0 1", "copy 1 0 2 0 1", "copy 0 1 0 0 48",
        "copy 0 0 0 1 48", "copy 0 42 0 0 7", "copy 0 42 0 0 -1", "copy 0 42 0 -1 6", "copy 0 -1 0 42 6", "knits 4 0 0 1",
        "knits 2 3 0 1", "knits 2 0 0 17", "knits 2 0 0 -1", "knits 3 0 0 1", "knits 2 1 0 1", "knits 2 0 4 1", "knits 2 0 -1 1",
        "taken 0 7", "taken 56 0", "taken -1 0", "taken 50 6", "taken 0 6", "taken 0 1"};

    /** Calls that only ask; each finds what made() makes. */
    private static final String[] ASKED = {
        "count 0", "count 4", "asks 0 16 99", "asks 2 45 0", "told 20 2", "hangs 20 0", "hangs 20 1", "hangs 20 2", "loose", "back 3",
        "run 42 99 0", "run 42 99 1", "run 44 99 2", "run 44 99 3", "goes 42 99 0", "goes 42 99 1", "left 45 99 39", "most 50 0",
        "most 99 1", "column 0 99 0", "column 2 99 1", "line 42 3", "reach 42 36", "two 99 0", "two 40 1", "two 99 2", "all 42",
        "counts 3 0", "counts 3 1", "counts 3 2", "slip 1", "wrong", "pinned 42 99 2 0", "pinned 43 99 1 1", "pinned 42 99 0 2",
        "mending 42 99 0", "mending 42 99 1", "seen", "slack 14 3", "judge 0 42 21", "judge 0 43 99", "which 0 21", "span 0 42 0",
        "span 0 42 1", "laws 0 42 21", "laws 0 42 5", "slips 7 42 99 50", "odds 7 9 42 99 20 0", "odds 7 9 42 99 20 1", "taken 20 2",
        "taken 51 6"};

    public static void main(String[] args) {
        sheets();
        theFirstTold();
        answersBehindNumbers();
        names();
        hosts();
        refusalsChangeNothing();
        askingChangesNothing();
        Edge.end();
    }

    private static void sheets() {
        Edge.says("Terms 2", "SHEETS 0 .. 3 are rows of numbers, or missing (as all are at first): of sort 0 bytes, 1 shorts, 2 ints, 48 at most.");
        StitchLetFall x = new StitchLetFall();
        for (int s = 0; s < 4; s++) {
            Edge.due(-11, x, "cell", s, 0, 0);
            Edge.due(-11, x, "judge", s, 0, 0);
            Edge.due(-11, x, "slip", s);
            for (int sort = 0; sort < 3; sort++) {
                Edge.due(1, x, "sheet", s, sort, 48);
                Edge.due(1, x, "cell", s, 47, 1);
                Edge.due(-12, x, "cell", s, 48, 1);
                Edge.due(-2, x, "sheet", s, sort, 49);
                for (int as = 0; as < 3; as++) {
                    Edge.due(as == sort ? 0 : -13, x, "knits", s, as, 0, 0);
                }
            }
        }
        Edge.refused(-2, x, "sheet", Edge.of(-1, 0, 1), Edge.of(4, 0, 1), Edge.of(0, 3, 1), Edge.of(0, -2, 1));
        Edge.refused(-2, x, "sheet", Edge.of(Edge.MIN, 0, 1), Edge.of(Edge.MAX, 0, 1), Edge.of(0, Edge.MIN, 1), Edge.of(0, Edge.MAX, 1));
    }

    private static void theFirstTold() {
        Edge.says("Terms 2", "REFUSALS, of several the first one told");
        StitchLetFall x = new StitchLetFall();
        Edge.due(-5, x, "asks", 3, 48, 100);
        Edge.due(-5, x, "knit", 48, 6, 10);
        Edge.due(-5, x, "row", 8, 6, 10);
        Edge.due(-5, x, "told", 48, 6);
        Edge.due(-5, x, "pin", 48, 2);
        Edge.due(-5, x, "run", 48, 100, 4);
        Edge.due(-5, x, "left", 48, 100, 0);
        Edge.due(-5, x, "left", 0, 100, 48);
        Edge.due(-5, x, "column", 6, 100, 2);
        Edge.due(-5, x, "line", 48, 49);
        Edge.due(-5, x, "counts", 8, 3);
        Edge.due(-5, x, "pinned", 48, 100, 49, 3);
        Edge.due(-5, x, "mending", 48, 100, 2);
        Edge.due(-5, x, "mend", 48, 100);
        Edge.due(-5, x, "slack", 48, 100);
        Edge.due(-5, x, "slips", -1, 48, 100, 101);
        for (String call : new String[] {"judge", "span", "laws", "film"}) {
            Edge.due(-2, x, call, 4, 48, 100);
            Edge.due(-2, x, call, -1, 48, 100);
        }
        for (String call : new String[] {"judge", "span", "laws"}) {
            StitchLetFall y = new StitchLetFall();
            Edge.due(-11, y, call, 0, 48, 100);
            y.sheet(0, 0, 47);
            Edge.due(-2, y, call, 0, 48, 100);
            y.sheet(0, 0, 48);
            Edge.due(-5, y, call, 0, 48, 100);
            Edge.due(-7, y, call, 0, 47, 100);
        }
        Edge.due(-5, x, "film", 0, 48, 100);
        Edge.due(-7, x, "film", 0, 47, 100);
        hostsFirst();
        Tell.feed(x, " ".repeat(160));
        Edge.due(-2, x, "feed", 0, 0, 0, 0, 0, 0);
        Edge.due(-2, x, "feed", 1, 0, 0, 0, 0, 256);
        Edge.due(-4, x, "feed", 1, 0, 0, 0, 0, 0);
    }

    private static void hostsFirst() {
        StitchLetFall x = new StitchLetFall();
        Edge.due(-2, x, "sheet", 4, 0, -1);
        Edge.due(-2, x, "sheet", 0, 3, -1);
        Edge.due(-2, x, "cell", 4, -1, 0);
        Edge.due(-11, x, "cell", 0, -1, 0);
        Edge.due(-2, x, "copy", 4, -1, 0, -1, -1);
        Edge.due(-2, x, "copy", 0, -1, 4, -1, -1);
        Edge.due(-11, x, "copy", 0, -1, 1, -1, -1);
        x.sheet(0, 0, 3);
        Edge.due(-11, x, "copy", 0, -1, 1, -1, -1);
        Edge.due(-11, x, "copy", 1, -1, 0, -1, -1);
        x.sheet(1, 1, 3);
        Edge.due(-13, x, "copy", 0, -1, 1, -1, -1);
        Edge.due(-2, x, "knits", 4, 3, -1, 17);
        Edge.due(-2, x, "knits", 3, 3, -1, 1);
        Edge.due(-2, x, "knits", 3, 0, -1, 17);
        Edge.due(-11, x, "knits", 3, 0, -1, 1);
        Edge.due(-13, x, "knits", 0, 1, -1, 1);
        Edge.due(-12, x, "knits", 0, 0, -1, 1);
        Edge.due(-2, x, "taken", 56, 7);
        Edge.due(-12, x, "taken", 56, 6);
        Edge.due(-11, x, "taken", 55, 5);
        Edge.due(-13, x, "taken", 47, 6);
    }

    private static void answersBehindNumbers() {
        Edge.says("Terms 2", "(a -1 that is an answer comes behind the refusal of a number):");
        StitchLetFall x = new StitchLetFall();
        x.pin(42, 1);
        Tell.rag(x, 0, 5);
        x.sheet(1, 0, 8);
        Edge.due(-1, x, "run", 42, 99, 1);
        Edge.due(-7, x, "run", 42, 100, 1);
        Edge.due(-1, x, "left", 42, 99, 36);
        Edge.due(-7, x, "left", 42, 100, 36);
        Edge.due(-1, x, "line", 42, 48);
        Edge.due(-7, x, "line", 42, 49);
        Edge.due(-1, x, "reach", 42, 47);
        Edge.due(-5, x, "reach", 42, 48);
        Edge.due(-1, x, "pinned", 43, 99, 0, 0);
        Edge.due(-7, x, "pinned", 43, 99, -1, 0);
        Edge.due(-7, x, "pinned", 43, 100, 0, 0);
        Edge.due(-7, x, "pinned", 43, 99, 0, 3);
        Edge.due(-1, x, "mending", 42, 99, 0);
        Edge.due(-7, x, "mending", 42, 100, 0);
        Edge.due(-7, x, "mending", 42, 99, 2);
        Edge.due(-1, x, "slack", 42, 99);
        Edge.due(-7, x, "slack", 42, 100);
        Edge.due(-1, x, "judge", 0, 5, 99);
        Edge.due(-7, x, "judge", 0, 5, 100);
        Edge.due(-1, x, "span", 0, 42, 0);
        Edge.due(-7, x, "span", 0, 42, 2);
        Tell.ints(x, 1, 0, 6, 6, 6, 6, 6, 6, 6);
        Edge.due(-1, x, "slip", 1);
        Tell.ints(x, 1, 0, 6, 6, 6, 6, 6, 6, 6, 6);
        Edge.due(-2, x, "slip", 1);
    }

    private static void names() {
        Edge.says("Terms 2", "NONE there is no such thing; BAD a number is not as told; STATE as told; FULL.");
        StitchLetFall x = new StitchLetFall();
        x.pin(0, 1);
        Edge.due(StitchLetFall.NONE, x, "run", 0, 0, 1);
        Edge.due(StitchLetFall.BAD, x, "count", 5);
        Edge.due(StitchLetFall.STATE, x, "restore");
        Tell.feed(x, " ".repeat(160));
        Edge.due(StitchLetFall.FULL, x, "feed", 1, 0, 0, 0, 0, 0);
        Edge.due(StitchLetFall.NO, x, "goes", 48, 0, 0);
        Due.due("NONE", StitchLetFall.NONE, -1);
        Due.due("BAD", StitchLetFall.BAD, -2);
        Due.due("STATE", StitchLetFall.STATE, -3);
        Due.due("FULL", StitchLetFall.FULL, -4);
        Due.due("NO", StitchLetFall.NO, -(1L << 62));
    }

    private static void hosts() {
        Edge.says("Terms 2", "The host's: -11 nothing there, -12 a place outside, -13 of another sort or KIND, -14 a size below 0.");
        StitchLetFall x = new StitchLetFall();
        Edge.due(-11, x, "cell", 0, 0, 0);
        Edge.due(-11, x, "copy", 0, 0, 0, 0, 0);
        Edge.due(-11, x, "knits", 0, 0, 0, 0);
        Edge.due(-11, x, "taken", 48, 6);
        Edge.due(-14, x, "sheet", 0, 0, -1);
        Edge.due(-14, x, "sheet", 0, 0, Edge.MIN);
        Edge.due(1, x, "sheet", 0, 0, 0);
        Edge.due(-12, x, "cell", 0, 0, 0);
        Edge.due(-12, x, "copy", 0, 0, 0, 0, 1);
        Edge.due(-12, x, "knits", 0, 0, 0, 1);
        Edge.due(-12, x, "taken", 56, 0);
        x.sheet(1, 1, 0);
        Edge.due(-13, x, "copy", 0, 0, 1, 0, 0);
        Edge.due(-13, x, "knits", 0, 1, 0, 0);
        Edge.due(-13, x, "taken", 0, 1);
    }

    /** An object with a bit of everything: TEXTS, THE TAPE, all KINDS, an IMAGE, three SHEETS. */
    private static StitchLetFall made() {
        StitchLetFall x = Tell.under("rub 5+more;minutes 2;seen 3;");
        x.knit(16, 1, 9);
        x.knit(20, 3, 4);
        x.pin(20, 1);
        x.pin(47, 1);
        x.mend(45, 30);
        x.image();
        x.force(0);
        x.knit(21, 5, 1);
        x.pin(3, 1);
        x.mend(44, 0);
        x.feed(5, 'r', 'u', 'b', '6', ';');
        x.film(0, 42, 21);
        x.sheet(1, 1, 8);
        for (int r = 1; r < 8; r++) {
            x.cell(1, r, x.counts(r, 1));
        }
        x.sheet(2, 0, 6);
        int[] triples = {7, 2, 3, 8, 1, 5};
        for (int i = 0; i < 6; i++) {
            x.cell(2, i, triples[i]);
        }
        return x;
    }

    /** All that can be seen of what made() made; then there are some hundred calls left to the object. */
    private static List<Long> looks(StitchLetFall x) {
        List<Long> all = new ArrayList<>();
        loops(all, x);
        for (String call : new String[] {
            "judge 0 42 21", "slip 1", "copy 0 47 0 47 1", "copy 0 48 0 48 1", "copy 1 7 1 7 1", "copy 1 8 1 8 1", "copy 2 5 2 5 1",
            "copy 2 6 2 6 1", "cell 3 0 0", "knits 0 2 0 0", "knits 1 1 0 0", "knits 2 0 0 2", "told 7 0", "told 7 1", "told 8 0",
            "told 8 1", "feed 5 109 105 110 117 116", "feed 5 101 115 55 59 115", "feed 5 101 101 110 56 59", "text", "force 2",
            "asks 0 0 0", "asks 1 0 0", "asks 2 0 0", "force 1", "asks 0 16 0", "restore"}) {
            all.add(answer(x, call));
        }
        loops(all, x);
        return all;
    }

    private static void loops(List<Long> all, StitchLetFall x) {
        for (int c = 0; c < 48; c++) {
            for (int what : new int[] {0, 1, 4, 5}) {
                all.add((long) x.told(c, what));
            }
        }
        for (int what = 0; what < 5; what++) {
            all.add((long) x.count(what));
        }
    }

    private static long answer(StitchLetFall x, String call) {
        String[] parts = call.split(" ");
        int[] a = new int[parts.length - 1];
        for (int i = 0; i < a.length; i++) {
            a[i] = Integer.parseInt(parts[i + 1]);
        }
        return Calls.answer(x, parts[0], a);
    }

    /** A few calls at a time, that none of the objects is asked more than 512. */
    private static void nothingChanges(String[] calls, boolean areRefused) {
        List<Long> before = looks(made());
        for (int from = 0; from < calls.length; from += 20) {
            String[] few = Arrays.copyOfRange(calls, from, Math.min(from + 20, calls.length));
            StitchLetFall x = made();
            for (String call : few) {
                long answer = answer(x, call);
                boolean isRefusal = answer <= -2 && answer >= -14 || answer == StitchLetFall.NO;
                Due.due(call + (areRefused ? " is refused" : " is not refused"), isRefusal ? 1 : 0, areRefused ? 1 : 0);
            }
            Due.same("all is as it was ahead of " + Arrays.toString(few), looks(x), before);
        }
    }

    private static void refusalsChangeNothing() {
        Edge.says("Terms 2", "They change nothing, but where it is told.");
        Edge.due(-1, made(), "judge", 0, 42, 21);
        nothingChanges(REFUSED, true);
    }

    private static void askingChangesNothing() {
        Edge.says("Terms 2", "What is asked changes nothing, but where it is told.");
        Edge.due(-1, made(), "slip", 1);
        nothingChanges(ASKED, false);
        // Nor does it change what is asked next.
        StitchLetFall x = made();
        StitchLetFall backwards = made();
        long[] answers = new long[ASKED.length];
        for (int i = 0; i < ASKED.length; i++) {
            answers[i] = answer(x, ASKED[i]);
        }
        for (int i = ASKED.length - 1; i >= 0; i--) {
            Due.due(ASKED[i] + " asked in another order", answer(backwards, ASKED[i]), answers[i]);
        }
    }
}
