/** The bounds that promises 32 to 40 name: rags, hands. */
public final class EdgeRagTest {
    private static final int JOINED = 3, THROWN = 4, BOUND = 5;

    public static void main(String[] args) {
        judge();
        which();
        span();
        laws();
        film();
        slips();
        odds();
        oddsRefused();
        image();
        restore();
        Edge.end();
    }

    /** What judge(), span() and laws() refuse ahead of their last number. */
    private static void sheetAndLoop(String call) {
        StitchLetFall x = new StitchLetFall();
        for (int s : new int[] {-1, 4, Edge.MIN, Edge.MAX}) {
            Edge.due(-2, x, call, s, 0, 0);
            Edge.due(-2, x, call, s, 48, 100);
        }
        for (int s = 0; s < 4; s++) {
            Edge.due(-11, x, call, s, 0, 0);
            Edge.due(-11, x, call, s, 48, 100);
            for (int size : new int[] {0, 8, 47}) {
                x.sheet(s, s % 3, size);
                Edge.due(-2, x, call, s, 0, 0);
                Edge.due(-2, x, call, s, 48, 100);
            }
            x.sheet(s, s % 3, 48);
            for (int c : new int[] {-1, 48, Edge.MIN, Edge.MAX}) {
                Edge.due(-5, x, call, s, c, 0);
                Edge.due(-5, x, call, s, c, 100);
            }
        }
    }

    private static void judge() {
        Edge.says("Promise 32", "A SHEET tells for each of 48 LOOPS whether it goes (1) or not (0): the first LOOP of a RUN that does otherwise; -1: none.");
        StitchLetFall x = new StitchLetFall();
        Tell.rag(x, 0, 42, 36);
        Edge.due(-1, x, "judge", 0, 42, 11);
        Edge.due(-1, x, "judge", 0, 42, 20);
        Edge.due(30, x, "judge", 0, 42, 21);
        Edge.due(36, x, "judge", 0, 42, 10);
        Edge.due(0, x, "judge", 0, 42, 71);
        x.cell(0, 47, 1);
        Edge.due(47, x, "judge", 0, 42, 11);
        x.cell(0, 0, 1);
        Edge.due(0, x, "judge", 0, 42, 11);
        // A number that is neither is otherwise, whether it goes or not.
        for (int v : new int[] {2, -1, 128, 255}) {
            Tell.rag(x, 0, 42, 36);
            x.cell(0, 36, v);
            Edge.due(36, x, "judge", 0, 42, 11);
            x.cell(0, 36, 1);
            x.cell(0, 7, v);
            Edge.due(7, x, "judge", 0, 42, 11);
        }
        x.sheet(1, 2, 48);
        Edge.due(42, x, "judge", 1, 42, 0);
        x.pin(42, 1);
        Edge.due(-1, x, "judge", 1, 42, 99);
        Edge.says("Promise 32", "BAD: SHEET; -11; BAD: its size isn't 48; -5: no such LOOP; -7: PULL.");
        sheetAndLoop("judge");
        Edge.refused(-7, x, "judge", Edge.of(0, 0, -1), Edge.of(0, 47, 100), Edge.of(1, 42, 100), Edge.of(0, 0, Edge.MIN), Edge.of(0, 0, Edge.MAX));
    }

    private static void which() {
        Edge.says("Promise 33", "LOOPS (bits) by which, dropped, that is -1.");
        StitchLetFall x = new StitchLetFall();
        Tell.rag(x, 0, 0);
        Edge.due(1, x, "which", 0, 0);
        Edge.due(1, x, "which", 0, 99);
        Tell.rag(x, 0, 47);
        Edge.due(1L << 47, x, "which", 0, 10);
        Edge.due(0, x, "which", 0, 11);
        x.sheet(0, 0, 48);
        Edge.due(0, x, "which", 0, 50);
        for (int c = 0; c < 48; c++) {
            x.pin(c, 1);
        }
        Edge.due((1L << 48) - 1, x, "which", 0, 50);
        Edge.says("Promise 33", "NO: refused, as of judge().");
        Edge.refused(Edge.NO, x, "which", Edge.of(-1, 0), Edge.of(4, 0), Edge.of(1, 0), Edge.of(0, -1), Edge.of(0, 100), Edge.of(Edge.MIN, 0), Edge.of(Edge.MAX, 0), Edge.of(0, Edge.MIN), Edge.of(0, Edge.MAX));
        for (int size : new int[] {0, 8, 47}) {
            x.sheet(1, 0, size);
            Edge.due(Edge.NO, x, "which", 1, 0);
        }
    }

    private static void span() {
        Edge.says("Promise 34", "What 0 the least, 1 the greatest PULL by which it is -1; -1: none.");
        StitchLetFall x = new StitchLetFall();
        Tell.rag(x, 0, 42);
        Edge.due(0, x, "span", 0, 42, 0);
        Edge.due(10, x, "span", 0, 42, 1);
        Tell.rag(x, 0, 42, 36, 30, 24, 18, 12, 6, 0);
        Edge.due(71, x, "span", 0, 42, 0);
        Edge.due(99, x, "span", 0, 42, 1);
        Edge.due(-1, x, "span", 0, 36, 0);
        Edge.due(-1, x, "span", 0, 36, 1);
        Tell.rag(x, 0, 5);
        Edge.due(0, x, "span", 0, 5, 0);
        Edge.due(99, x, "span", 0, 5, 1);
        StitchLetFall y = Tell.under("rub 98;minutes 1;seen 1;");
        Tell.rag(y, 0, 42, 36);
        Edge.due(99, y, "span", 0, 42, 0);
        Edge.due(99, y, "span", 0, 42, 1);
        StitchLetFall w = Tell.under("rub 99;minutes 1;seen 1;");
        Tell.rag(w, 0, 42, 36);
        Edge.due(-1, w, "span", 0, 42, 0);
        Edge.due(-1, w, "span", 0, 42, 1);
        // By one PULL alone; and by some with others between.
        StitchLetFall z = Tell.under("rub 99*(not pull=50);minutes 1;seen 1;");
        Tell.rag(z, 0, 42, 36, 30, 24, 18, 12, 6, 0);
        Edge.due(50, z, "span", 0, 42, 0);
        Edge.due(50, z, "span", 0, 42, 1);
        Tell.rag(z, 0, 42);
        Edge.due(0, z, "span", 0, 42, 0);
        Edge.due(99, z, "span", 0, 42, 1);
        Edge.says("Promise 34", "BAD, -11, BAD, -5 likewise; -7: what.");
        sheetAndLoop("span");
        Edge.refused(-7, x, "span", Edge.of(0, 0, -1), Edge.of(0, 47, 2), Edge.of(0, 0, Edge.MIN), Edge.of(0, 0, Edge.MAX));
    }

    private static void laws() {
        Edge.says("Promise 35", "TEXTS (bits), were they THE LAW, by which it is -1.");
        StitchLetFall x = new StitchLetFall();
        Tell.rag(x, 0, 42, 36);
        Edge.due(1, x, "laws", 0, 42, 11);
        Edge.due(0, x, "laws", 0, 42, 10);
        // There are no others yet, also where none would rub.
        Tell.rag(x, 1, 0);
        Edge.due(1, x, "laws", 1, 0, 99);
        Tell.rag(x, 1, 42, 36, 30, 24, 18, 12, 6, 0);
        Edge.due(0, x, "laws", 1, 42, 70);
        Edge.due(1, x, "laws", 1, 42, 71);
        for (int t = 1; t < 6; t++) {
            Tell.text(x, "rub " + 15 * t + ";minutes 2;seen 3;");
        }
        // They rub 10, 15, 30, 45, 60, 75.
        Edge.due(1 | 2, x, "laws", 0, 42, 20);
        Edge.due(4, x, "laws", 0, 42, 31);
        Edge.due(16 | 32, x, "laws", 0, 42, 99);
        Edge.due(0, x, "laws", 0, 42, 5);
        x.force(5);
        Edge.due(1 | 2, x, "laws", 0, 42, 16);
        Edge.due(5, x, "count", 3);
        Tell.rag(x, 0, 0);
        Edge.due(63, x, "laws", 0, 0, 99);
        Edge.says("Promise 35", "BAD, -11, BAD, -5, -7 as of judge().");
        sheetAndLoop("laws");
        Edge.refused(-7, x, "laws", Edge.of(0, 0, -1), Edge.of(0, 47, 100), Edge.of(0, 0, Edge.MIN), Edge.of(0, 0, Edge.MAX));
    }

    private static void film() {
        Edge.says("Promise 36", "A SHEET truly becomes that of a RUN (48 ints): 48.");
        StitchLetFall x = new StitchLetFall();
        for (int s = 0; s < 4; s++) {
            Edge.due(48, x, "film", s, 42, 11);
            Edge.due(-1, x, "judge", s, 42, 11);
            Edge.due(0, x, "knits", s, 2, 0, 0);
            Edge.due(1, x, "cell", s, 47, 0);
            Edge.due(-12, x, "cell", s, 48, 0);
        }
        // What it was, of any sort and size, is gone.
        x.sheet(0, 0, 0);
        Edge.due(48, x, "film", 0, 5, 99);
        Edge.due(-1, x, "judge", 0, 5, 99);
        Tell.rag(x, 1, 1, 2, 3);
        Edge.due(48, x, "film", 1, 0, 0);
        Edge.due(-1, x, "judge", 1, 0, 0);
        x.sheet(2, 1, 8);
        x.pin(0, 1);
        Edge.due(48, x, "film", 2, 0, 99);
        Edge.due(-1, x, "judge", 2, 0, 99);
        Edge.due(48, x, "film", 3, 47, 0);
        Edge.due(-1, x, "judge", 3, 47, 0);
        x.cell(2, 0, 65536);
        Edge.due(0, x, "judge", 2, 0, 99);
        Edge.says("Promise 36", "BAD: SHEET; -5: no such LOOP; -7: PULL.");
        StitchLetFall y = new StitchLetFall();
        Edge.refused(-2, y, "film", Edge.of(-1, 0, 0), Edge.of(4, 0, 0), Edge.of(4, 48, 100), Edge.of(Edge.MIN, 0, 0), Edge.of(Edge.MAX, 0, 0));
        Edge.refused(-5, y, "film", Edge.of(0, -1, 0), Edge.of(0, 48, 0), Edge.of(0, 48, 100), Edge.of(0, Edge.MIN, 0), Edge.of(0, Edge.MAX, 0));
        Edge.refused(-7, y, "film", Edge.of(0, 0, -1), Edge.of(0, 0, 100), Edge.of(0, 47, Edge.MIN), Edge.of(0, 47, Edge.MAX));
        Edge.due(-11, y, "cell", 0, 0, 0);
    }

    private static void slips() {
        Edge.says("Promise 37", "HANDS: how many of a RUN are MISSED.");
        StitchLetFall x = new StitchLetFall();
        Edge.due(0, x, "slips", 0, 42, 99, 0);
        Edge.due(8, x, "slips", 0, 42, 99, 100);
        Edge.due(1, x, "slips", 99999, 0, 0, 100);
        Edge.due(1, x, "slips", 0, 47, 0, 100);
        // By SEED 0 the first LOT is 71 of a hundred, by SEED 99999 6.
        Edge.due(0, x, "slips", 0, 42, 0, 71);
        Edge.due(1, x, "slips", 0, 42, 0, 72);
        Edge.due(0, x, "slips", 99999, 42, 0, 6);
        Edge.due(1, x, "slips", 99999, 42, 0, 7);
        x.knit(0, BOUND, 0);
        Edge.due(7, x, "slips", 0, 42, 99, 100);
        Edge.due(0, x, "slips", 0, 0, 99, 100);
        Edge.says("Promise 37", "-5: no such LOOP; -7: SEED, PULL, h.");
        Edge.refused(-5, x, "slips", Edge.of(0, -1, 0, 0), Edge.of(0, 48, 0, 0), Edge.of(-1, 48, 100, 101), Edge.of(0, Edge.MIN, 0, 0), Edge.of(0, Edge.MAX, 0, 0));
        Edge.refused(-7, x, "slips", Edge.of(-1, 0, 0, 0), Edge.of(100000, 0, 0, 0), Edge.of(0, 0, -1, 0), Edge.of(0, 0, 100, 0), Edge.of(0, 0, 0, -1), Edge.of(0, 0, 0, 101));
        Edge.refused(-7, x, "slips", Edge.of(Edge.MIN, 47, 0, 0), Edge.of(Edge.MAX, 47, 0, 0), Edge.of(0, 47, Edge.MIN, 0), Edge.of(0, 47, Edge.MAX, 0), Edge.of(0, 47, 0, Edge.MIN), Edge.of(0, 47, 0, Edge.MAX));
    }

    private static void odds(StitchLetFall x, long above, long below, int seed, int seeds, int c, int pull, int h) {
        Edge.due(above, x, "odds", seed, seeds, c, pull, h, 0);
        Edge.due(below, x, "odds", seed, seeds, c, pull, h, 1);
    }

    private static void odds() {
        Edge.says("Promise 38", "In how many of so many (1 .. 50) seeds, SEED and each 1 more (they may pass 99999), none is MISSED: part 0 above, 1 below the line, in lowest terms.");
        StitchLetFall x = new StitchLetFall();
        // The first LOTS by SEEDS 0 .. 5: 71, 42, 13, 84, 55, 26 of a hundred.
        odds(x, 1, 1, 0, 1, 42, 0, 71);
        odds(x, 0, 1, 0, 1, 42, 0, 72);
        odds(x, 2, 3, 0, 6, 42, 0, 42);
        odds(x, 1, 2, 0, 6, 42, 0, 43);
        odds(x, 3, 5, 0, 5, 42, 0, 43);
        odds(x, 1, 6, 0, 6, 42, 0, 84);
        odds(x, 0, 1, 0, 6, 42, 0, 85);
        odds(x, 1, 1, 0, 6, 42, 0, 13);
        odds(x, 0, 1, 0, 50, 42, 99, 100);
        odds(x, 1, 1, 0, 50, 42, 99, 0);
        odds(x, 1, 1, 99999, 50, 42, 99, 0);
        int clean = 0;
        for (int seed = 1000; seed < 1050; seed++) {
            clean += x.slips(seed, 42, 0, 50) == 0 ? 1 : 0;
        }
        int shared = java.math.BigInteger.valueOf(clean).gcd(java.math.BigInteger.valueOf(50)).intValue();
        odds(x, clean / shared, 50 / shared, 1000, 50, 42, 0, 50);
        // SEED 99999 by 6 of a hundred, 100000 by 77, 100001 by 48.
        odds(x, 1, 1, 99999, 2, 42, 0, 6);
        odds(x, 1, 2, 99999, 2, 42, 0, 7);
        odds(x, 1, 2, 99999, 2, 42, 0, 77);
        odds(x, 0, 1, 99999, 2, 42, 0, 78);
        odds(x, 2, 3, 99999, 3, 42, 0, 48);
        odds(x, 1, 3, 99999, 3, 42, 0, 49);
        // None went, so none is MISSED.
        x.pin(42, 1);
        odds(x, 1, 1, 0, 50, 42, 99, 100);
    }

    private static void oddsRefused() {
        Edge.says("Promise 38", "NO: none such.");
        StitchLetFall x = new StitchLetFall();
        int[][] least = {{0, 1, 0, 0, 0, 0}, {99999, 50, 47, 99, 100, 1}};
        int[] below = {-1, 0, -1, -1, -1, -1};
        int[] above = {100000, 51, 48, 100, 101, 2};
        for (int[] fit : least) {
            Edge.due(1, x, "odds", fit[0], fit[1], fit[2], fit[3], fit[4], 1);
            for (int i = 0; i < 6; i++) {
                for (int bad : new int[] {below[i], above[i], Edge.MIN, Edge.MAX}) {
                    int[] a = fit.clone();
                    a[i] = bad;
                    Edge.due(Edge.NO, x, "odds", a);
                }
            }
        }
    }

    private static void image() {
        Edge.says("Promise 39", "AN IMAGE is kept: how many LOOPS are PINNED.");
        StitchLetFall x = new StitchLetFall();
        Edge.due(0, x, "image");
        for (int c = 0; c < 48; c++) {
            x.pin(c, 1);
        }
        Edge.due(0, x, "restore");
        Edge.due(0, x, "count", 0);
        for (int c = 0; c < 48; c++) {
            x.pin(c, 1);
        }
        Edge.due(48, x, "image");
        Edge.due(48, x, "count", 0);
        x.pin(47, 0);
        Edge.due(47, x, "image");
        x.pin(46, 0);
        Edge.due(47, x, "restore");
        Edge.due(1, x, "told", 46, 4);
        Edge.due(0, x, "told", 47, 4);
    }

    private static void restore() {
        Edge.says("Promise 40", "All that it keeps is as in THE IMAGE: how many LOOPS are PINNED.");
        StitchLetFall x = new StitchLetFall();
        Tell.text(x, "rub 1;minutes 2;seen 3;");
        x.knit(0, JOINED, 9);
        x.knit(47, THROWN, 8);
        x.pin(1, 1);
        x.mend(46, 0);
        x.force(1);
        x.image();
        for (int times = 0; times < 2; times++) {
            x.row(0, 0, 0);
            x.row(7, 0, 0);
            x.pin(1, 0);
            x.pin(2, 1);
            x.pin(3, 1);
            x.block();
            x.mend(45, 0);
            x.force(0);
            Tell.text(x, "rub 5;minutes 5;seen 5;");
            x.feed(2, '?', '?', 0, 0, 0);
            x.sheet(0, 2, 1 + times);
            Edge.due(1, x, "restore");
            Edge.due(JOINED, x, "told", 0, 0);
            Edge.due(9, x, "told", 0, 1);
            Edge.due(THROWN, x, "told", 47, 0);
            Edge.due(8, x, "told", 47, 1);
            Edge.due(1, x, "told", 1, 4);
            Edge.due(0, x, "told", 2, 4);
            Edge.due(1, x, "told", 46, 5);
            Edge.due(0, x, "told", 45, 5);
            Edge.due(1, x, "count", 3);
            // What it doesn't keep is as it was.
            Edge.due(3 + times, x, "count", 2);
            Edge.due(2, x, "count", 4);
            Edge.due(1, x, "cell", 0, times, 7);
            Edge.due(-100, x, "text");
        }
        Edge.says("Promise 40", "STATE: there is none.");
        StitchLetFall y = new StitchLetFall();
        y.pin(0, 1);
        y.knit(1, JOINED, 9);
        Edge.due(-3, y, "restore");
        Edge.due(1, y, "count", 0);
        Edge.due(JOINED, y, "told", 1, 0);
        Edge.due(1, y, "image");
        Edge.due(1, y, "restore");
        // Another object's is none of this one's.
        Edge.due(-3, new StitchLetFall(), "restore");
    }
}
