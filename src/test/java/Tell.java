/** What the tests do to an object again and again. */
final class Tell {
    private Tell() {
    }

    /** Feeds a text's bytes, and asks nothing more. */
    static void feed(StitchLetFall x, String s) {
        int[] b = new int[5];
        for (int i = 0; i < s.length(); i += 5) {
            int n = Math.min(5, s.length() - i);
            for (int k = 0; k < 5; k++) {
                b[k] = k < n ? s.charAt(i + k) : 0;
            }
            x.feed(n, b[0], b[1], b[2], b[3], b[4]);
        }
    }

    static int text(StitchLetFall x, String s) {
        feed(x, s);
        return x.text();
    }

    /** A new object under a law of its own. */
    static StitchLetFall under(String law) {
        StitchLetFall x = new StitchLetFall();
        Due.due("text of " + law, text(x, law), 1);
        x.force(1);
        return x;
    }

    static long bits(int... loops) {
        long b = 0;
        for (int c : loops) {
            b |= 1L << c;
        }
        return b;
    }

    /** A SHEET of ints with these numbers. */
    static void ints(StitchLetFall x, int s, int... numbers) {
        x.sheet(s, 2, numbers.length);
        for (int i = 0; i < numbers.length; i++) {
            x.cell(s, i, numbers[i]);
        }
    }

    /** A SHEET of 48 that tells these LOOPS. */
    static void rag(StitchLetFall x, int s, int... loops) {
        x.sheet(s, 0, 48);
        for (int c : loops) {
            x.cell(s, c, 1);
        }
    }
}
