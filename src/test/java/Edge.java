import java.util.Arrays;

/** Holds answers against the document's sentences, one after another: each test says which one it holds. */
final class Edge {
    static final long NO = StitchLetFall.NO;
    static final int MIN = Integer.MIN_VALUE, MAX = Integer.MAX_VALUE;

    private static String sentence = "";
    private static int held = 0;

    private Edge() {
    }

    /** From here on calls are held against these words of the document. SentencesTest reads these lines, too. */
    static void says(String where, String words) {
        close();
        sentence = where + " \"" + words + "\"";
        held = 0;
        Due.due(sentence + " stands in the document", Document.sections().get(where).contains(words) ? 1 : 0, 1);
    }

    static void due(long want, StitchLetFall x, String call, int... a) {
        held++;
        Due.due(sentence + ": " + call + Arrays.toString(a), Calls.answer(x, call, a), want);
    }

    /** Calls that are refused alike: as many of them as rows of numbers. */
    static void refused(long want, StitchLetFall x, String call, int[]... rows) {
        for (int[] a : rows) {
            due(want, x, call, a);
        }
    }

    static int[] of(int... a) {
        return a;
    }

    /** A new object is told a TEXT, and finds a FAULT in it. */
    static void fault(int place, String text) {
        held++;
        StitchLetFall x = new StitchLetFall();
        Due.due(sentence + ": FAULT of \"" + text + "\"", Tell.text(x, text), -100 - place);
    }

    /** A new object is told a TEXT that has no FAULT. */
    static void fine(String text) {
        fault(-101, text);
    }

    /** What an E is worth, 0 .. 99, of LOOP 0 in a new object. */
    static void worth(int want, String e) {
        fine("rub " + e + ";minutes 0;seen 0;");
        StitchLetFall x = new StitchLetFall();
        Tell.text(x, "rub " + e + ";minutes 0;seen 0;");
        x.force(1);
        held++;
        Due.due(sentence + ": " + e, x.asks(0, 0, 0), want);
    }

    static void end() {
        close();
        Due.end();
    }

    private static void close() {
        if (!sentence.isEmpty()) {
            Due.due(sentence + " is held by a call", held > 0 ? 1 : 0, 1);
        }
    }
}
