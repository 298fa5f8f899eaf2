/** The bounds that promises 26 to 31 name: pins, mending, slack. */
public final class EdgeMendTest {
    private static final int PURL = 1, JOINED = 3, THROWN = 4, BOUND = 5;
    private static final String BY_ONE = "rub 1;minutes 1;seen 1;";

    public static void main(String[] args) {
        pinned();
        pinnedByTwo();
        mending();
        mend();
        block();
        seen();
        slack();
        Edge.end();
    }

    private static void pinned(StitchLetFall x, int c, int pull, int n, int many, int lesser, int other) {
        Edge.due(many, x, "pinned", c, pull, n, 0);
        Edge.due(lesser, x, "pinned", c, pull, n, 1);
        Edge.due(other, x, "pinned", c, pull, n, 2);
    }

    private static void pinned() {
        Edge.says("Promise 26", "The fewest LOOPS (0, 1, 2; not the one that is dropped) by which, were they PINNED too, no more than n (0 .. 48) go: what 0 how many (-1: not by 2), 1 the lesser, 2 the other one (-1: there is none),");
        StitchLetFall x = new StitchLetFall();
        pinned(x, 42, 99, 48, 0, -1, -1);
        pinned(x, 42, 99, 8, 0, -1, -1);
        pinned(x, 42, 99, 7, 1, 0, -1);
        pinned(x, 42, 99, 1, 1, 36, -1);
        pinned(x, 42, 99, 0, -1, -1, -1);
        pinned(x, 42, 0, 1, 0, -1, -1);
        pinned(x, 42, 0, 0, -1, -1, -1);
        pinned(x, 0, 99, 0, -1, -1, -1);
        pinned(x, 47, 71, 7, 1, 5, -1);
        pinned(x, 47, 70, 7, 0, -1, -1);
        Edge.due(0, x, "count", 0);
        // Those that are PINNED are so, too.
        x.pin(24, 1);
        pinned(x, 42, 99, 3, 0, -1, -1);
        pinned(x, 42, 99, 2, 1, 30, -1);
        x.pin(42, 1);
        pinned(x, 42, 99, 0, 0, -1, -1);
        x.knit(43, BOUND, 0);
        pinned(x, 43, 99, 0, 0, -1, -1);
        Edge.due(2, x, "count", 0);
        Edge.says("Promise 26", "-5: no such LOOP; -7: PULL, n, what.");
        Edge.refused(-5, x, "pinned", Edge.of(-1, 0, 0, 0), Edge.of(48, 0, 0, 0), Edge.of(48, 100, 49, 3), Edge.of(Edge.MIN, 0, 0, 0), Edge.of(Edge.MAX, 0, 0, 0));
        Edge.refused(-7, x, "pinned", Edge.of(0, -1, 0, 0), Edge.of(0, 100, 0, 0), Edge.of(0, 0, -1, 0), Edge.of(0, 0, 49, 0), Edge.of(0, 0, 0, -1), Edge.of(0, 0, 0, 3));
        Edge.refused(-7, x, "pinned", Edge.of(42, Edge.MIN, 0, 0), Edge.of(42, Edge.MAX, 0, 0), Edge.of(42, 0, Edge.MIN, 0), Edge.of(42, 0, Edge.MAX, 0), Edge.of(42, 0, 0, Edge.MIN), Edge.of(42, 0, 0, Edge.MAX));
    }

    private static void pinnedByTwo() {
        Edge.says("Promise 26", "of like ones the first by these.");
        StitchLetFall x = Tell.under(BY_ONE);
        x.knit(42, JOINED, 0);
        x.knit(43, THROWN, 0);
        // From 42 fifteen go, in two columns: 0 .. 36 and 1 .. 37.
        pinned(x, 42, 99, 15, 0, -1, -1);
        pinned(x, 42, 99, 14, 1, 0, -1);
        pinned(x, 42, 99, 13, 1, 6, -1);
        pinned(x, 42, 99, 8, 1, 36, -1);
        pinned(x, 42, 99, 7, 2, 0, 37);
        pinned(x, 42, 99, 3, 2, 24, 37);
        pinned(x, 42, 99, 1, 2, 36, 37);
        pinned(x, 42, 99, 0, -1, -1, -1);
        // Where none lets just n go, fewer will do: 30 holds both columns below it.
        StitchLetFall z = Tell.under(BY_ONE);
        z.knit(30, JOINED, 0);
        z.knit(31, THROWN, 0);
        pinned(z, 42, 99, 13, 0, -1, -1);
        pinned(z, 42, 99, 8, 1, 24, -1);
        for (int n = 2; n < 8; n++) {
            pinned(z, 42, 99, n, 1, 30, -1);
        }
        pinned(z, 42, 99, 1, 1, 36, -1);
        // Of the last two PLACES.
        StitchLetFall y = Tell.under(BY_ONE);
        y.knit(46, JOINED, 0);
        y.knit(47, THROWN, 0);
        pinned(y, 46, 99, 8, 1, 40, -1);
        pinned(y, 46, 99, 6, 2, 10, 41);
        pinned(y, 46, 99, 1, 2, 40, 41);
    }

    private static void mending(StitchLetFall x, int c, int pull, int which, int minutes) {
        Edge.due(which, x, "mending", c, pull, 0);
        Edge.due(minutes, x, "mending", c, pull, 1);
    }

    private static void mending() {
        Edge.says("Promise 27", "How to mend what went in least minutes: 0 rung by rung: minutes of all; 1 by rows: 24 for each ROW from 7 down to the lowest; 2 grafted: 50, and 1 for each: which, of like ones the first (what 0; -1: none went), how many minutes (1; 0).");
        StitchLetFall x = new StitchLetFall();
        mending(x, 42, 0, 0, 2);
        mending(x, 42, 99, 0, 16);
        x.pin(42, 1);
        mending(x, 42, 99, -1, 0);
        // One LOOP of ROW 7: as many minutes by rows, 1 more.
        mending(Tell.under("rub 1;minutes 24;seen 1;"), 42, 0, 0, 24);
        mending(Tell.under("rub 1;minutes 25;seen 1;"), 42, 0, 1, 24);
        // Of ROW 6: 48 by rows, though one alone went; of ROW 5 72, so 51 grafted are less.
        mending(Tell.under("rub 1;minutes 48;seen 1;"), 36, 0, 0, 48);
        mending(Tell.under("rub 1;minutes 49;seen 1;"), 36, 0, 1, 48);
        mending(Tell.under("rub 1;minutes 51;seen 1;"), 30, 0, 0, 51);
        mending(Tell.under("rub 1;minutes 52;seen 1;"), 30, 0, 2, 51);
        mending(Tell.under("rub 1;minutes 99;seen 1;"), 0, 0, 2, 51);
        // Two ROWS: 48 by rows, 52 grafted; three: 72 and 53; eight: 192 and 58.
        mending(Tell.under("rub 1;minutes 99;seen 1;"), 42, 2, 1, 48);
        mending(Tell.under("rub 1;minutes 99;seen 1;"), 42, 3, 2, 53);
        mending(Tell.under("rub 1;minutes 99;seen 1;"), 42, 99, 2, 58);
        // No minutes at all.
        mending(Tell.under("rub 1;minutes 0;seen 1;"), 42, 99, 0, 0);
        // By what is left of each: 1, 2, 3.
        mending(Tell.under("rub 1;minutes pull;seen 1;"), 42, 3, 0, 6);
        Edge.says("Promise 27", "-5: no such LOOP; -7: PULL, what.");
        Edge.refused(-5, x, "mending", Edge.of(-1, 0, 0), Edge.of(48, 0, 0), Edge.of(48, 100, 2), Edge.of(Edge.MIN, 0, 0), Edge.of(Edge.MAX, 0, 0));
        Edge.refused(-7, x, "mending", Edge.of(0, -1, 0), Edge.of(0, 100, 0), Edge.of(0, 0, -1), Edge.of(0, 0, 2), Edge.of(42, Edge.MIN, 0), Edge.of(42, Edge.MAX, 0), Edge.of(42, 0, Edge.MIN), Edge.of(42, 0, Edge.MAX));
    }

    private static void mend() {
        Edge.says("Promise 28", "What went in a RUN is truly MENDED: how many weren't ahead.");
        StitchLetFall x = new StitchLetFall();
        Edge.due(1, x, "mend", 42, 0);
        Edge.due(0, x, "mend", 42, 10);
        Edge.due(1, x, "count", 1);
        Edge.due(1, x, "told", 42, 5);
        Edge.due(1, x, "mend", 42, 11);
        Edge.due(6, x, "mend", 42, 99);
        Edge.due(0, x, "mend", 0, 99);
        Edge.due(8, x, "count", 1);
        x.pin(47, 1);
        Edge.due(0, x, "mend", 47, 99);
        Edge.due(0, x, "told", 47, 5);
        // One that went is MENDED, not only the one that is dropped; and it stays so while others are.
        Edge.due(1, x, "told", 0, 5);
        Edge.due(8, x, "mend", 46, 99);
        Edge.due(16, x, "count", 1);
        Edge.says("Promise 28", "-5: no such LOOP; -7: PULL.");
        Edge.refused(-5, x, "mend", Edge.of(-1, 0), Edge.of(48, 0), Edge.of(48, 100), Edge.of(Edge.MIN, 0), Edge.of(Edge.MAX, 0));
        Edge.refused(-7, x, "mend", Edge.of(0, -1), Edge.of(0, 100), Edge.of(45, Edge.MIN), Edge.of(45, Edge.MAX));
        Edge.due(16, x, "count", 1);
    }

    private static void block() {
        Edge.says("Promise 29", "None is MENDED any more: how many were.");
        StitchLetFall x = new StitchLetFall();
        Edge.due(0, x, "block");
        x.mend(0, 0);
        Edge.due(1, x, "block");
        for (int c = 0; c < 48; c++) {
            x.mend(c, 0);
        }
        Edge.due(48, x, "block");
        Edge.due(0, x, "count", 1);
        Edge.due(0, x, "told", 0, 5);
        Edge.due(0, x, "told", 47, 5);
        Edge.due(0, x, "block");
    }

    private static void seen() {
        Edge.says("Promise 30", "MENDED LOOPS (bits) whose FACE is unlike that of each one beside them in their ROW.");
        for (int row : new int[] {0, 3, 7}) {
            StitchLetFall x = new StitchLetFall();
            int c = 6 * row;
            // FACES 1 0 1 0 0 1: unlike those beside are 0, 1, 2 and 5.
            x.knit(c, PURL, 0);
            x.knit(c + 2, PURL, 0);
            x.knit(c + 5, PURL, 0);
            Edge.due(0, x, "seen");
            long want = 0;
            for (int p = 0; p < 6; p++) {
                x.mend(c + p, 0);
                want |= p == 3 || p == 4 ? 0 : 1L << c + p;
                Edge.due(want, x, "seen");
            }
            // A BOUND one's FACE is 0: 0 0 1 0 0 1.
            x.knit(c, BOUND, 0);
            Edge.due(4L << c | 32L << c, x, "seen");
            // 0 0 1 0 1 1.
            x.knit(c + 4, PURL, 0);
            Edge.due(12L << c, x, "seen");
            x.row(row, PURL, 0);
            Edge.due(0, x, "seen");
        }
        // Those of another ROW are not beside it: 5 and 6, 41 and 42.
        StitchLetFall y = new StitchLetFall();
        for (int c : new int[] {5, 6, 41, 42}) {
            y.knit(c, PURL, 0);
            y.mend(c, 0);
        }
        Edge.due(1L << 5 | 1L << 6 | 1L << 41 | 1L << 42, y, "seen");
        StitchLetFall z = new StitchLetFall();
        for (int r = 0; r < 8; r++) {
            for (int p = 0; p < 6; p += 2) {
                z.knit(6 * r + p, PURL, 0);
            }
        }
        for (int c = 0; c < 48; c++) {
            z.mend(c, 0);
        }
        Edge.due((1L << 48) - 1, z, "seen");
    }

    private static void slack() {
        Edge.says("Promise 31", "Slack is drawn to a LOOP along its ROW: the others of it give MORE each, the nearest first, of two the one of the lesser PLACE: how many, till it is n (0 .. 99) or more together; -1: it never is.");
        StitchLetFall x = new StitchLetFall();
        Edge.due(0, x, "slack", 0, 0);
        Edge.due(-1, x, "slack", 0, 1);
        Edge.due(-1, x, "slack", 47, 99);
        for (int r : new int[] {0, 7}) {
            int[] more = {1, 2, 4, 8, 9, 3};
            for (int p = 0; p < 6; p++) {
                x.knit(6 * r + p, 0, more[p]);
            }
            // The sums that come together, nearest first, of two the lesser PLACE first.
            int[][] sums = {{2, 6, 14, 23, 26}, {1, 5, 13, 22, 25}, {2, 10, 11, 20, 23}, {4, 13, 15, 18, 19}, {8, 11, 15, 17, 18}, {9, 17, 21, 23, 24}};
            for (int p = 0; p < 6; p++) {
                Edge.due(0, x, "slack", 6 * r + p, 0);
                for (int i = 0; i < 5; i++) {
                    Edge.due(i + 1, x, "slack", 6 * r + p, sums[p][i]);
                    Edge.due(i < 4 ? i + 2 : -1, x, "slack", 6 * r + p, sums[p][i] + 1);
                }
            }
        }
        // Those beside it in number, but of another ROW, give none.
        x.row(0, 0, 0);
        Edge.due(-1, x, "slack", 5, 1);
        x.row(1, 0, 9);
        Edge.due(-1, x, "slack", 5, 1);
        Edge.due(5, x, "slack", 11, 45);
        Edge.due(-1, x, "slack", 11, 46);
        Edge.says("Promise 31", "-5: no such LOOP; -7: n.");
        Edge.refused(-5, x, "slack", Edge.of(-1, 0), Edge.of(48, 0), Edge.of(48, 100), Edge.of(Edge.MIN, 0), Edge.of(Edge.MAX, 0));
        Edge.refused(-7, x, "slack", Edge.of(0, -1), Edge.of(0, 100), Edge.of(47, Edge.MIN), Edge.of(47, Edge.MAX));
    }
}
