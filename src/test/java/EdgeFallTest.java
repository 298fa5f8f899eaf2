/** The bounds that promises 14 to 25 name: what runs, counted rows. */
public final class EdgeFallTest {
    private static final int PURL = 1, CROSSED = 2, JOINED = 3, THROWN = 4, BOUND = 5;
    private static final String NO_RUB = "rub 0;minutes 1;seen 1;", ALL_RUB = "rub 99;minutes 1;seen 1;";

    public static void main(String[] args) {
        run();
        goes();
        left();
        most();
        column();
        line();
        reach();
        two();
        twoThatMeet();
        twoByWhichFewerGo();
        all();
        counts();
        slip();
        wrong();
        Edge.end();
    }

    /** A new object in which all are PINNED but these. */
    private static StitchLetFall free(StitchLetFall x, int... loops) {
        for (int c = 0; c < 48; c++) {
            x.pin(c, 1);
        }
        for (int c : loops) {
            x.pin(c, 0);
        }
        return x;
    }

    private static void run() {
        Edge.says("Promise 14", "A RUN: what 0 how many go, 1 the lowest ROW of theirs (-1: none goes), 2 minutes, 3 seen of all that go, together.");
        StitchLetFall x = new StitchLetFall();
        int[][] due = {{42, 0, 1, 7, 2, 1}, {42, 10, 1, 7, 2, 1}, {42, 11, 2, 6, 4, 2}, {47, 71, 8, 0, 16, 8}, {47, 70, 7, 1, 14, 7}, {0, 0, 1, 0, 2, 1}, {5, 99, 1, 0, 2, 1}, {11, 99, 2, 0, 4, 2}};
        for (int[] d : due) {
            for (int what = 0; what < 4; what++) {
                Edge.due(d[2 + what], x, "run", d[0], d[1], what);
            }
        }
        x.pin(47, 1);
        x.knit(0, BOUND, 9);
        int[] none = {0, -1, 0, 0};
        for (int what = 0; what < 4; what++) {
            Edge.due(none[what], x, "run", 47, 99, what);
            Edge.due(none[what], x, "run", 0, 0, what);
        }
        // The lowest is one ROW, though there the RUN spreads to two PLACES.
        StitchLetFall y = Tell.under("rub 0;minutes 99;seen 98;");
        y.knit(42, JOINED, 0);
        y.knit(43, THROWN, 0);
        Edge.due(15, y, "run", 42, 99, 0);
        Edge.due(0, y, "run", 42, 99, 1);
        Edge.due(15 * 99, y, "run", 42, 99, 2);
        Edge.due(15 * 98, y, "run", 42, 99, 3);
        Edge.says("Promise 14", "-5: no such LOOP; -7: PULL, what.");
        Edge.refused(-5, x, "run", Edge.of(-1, 0, 0), Edge.of(48, 0, 0), Edge.of(48, 100, 4), Edge.of(Edge.MIN, 0, 0), Edge.of(Edge.MAX, 0, 0));
        Edge.refused(-7, x, "run", Edge.of(0, -1, 0), Edge.of(0, 100, 0), Edge.of(0, 0, -1), Edge.of(0, 0, 4), Edge.of(47, Edge.MIN, 1), Edge.of(47, Edge.MAX, 1), Edge.of(0, 0, Edge.MIN), Edge.of(0, 0, Edge.MAX));
    }

    private static void goes() {
        Edge.says("Promise 15", "A RUN: LOOPS (bits) what 0 that go, 1 at which IT STOPS.");
        StitchLetFall x = new StitchLetFall();
        Edge.due(1L << 47, x, "goes", 47, 0, 0);
        Edge.due(1L << 41, x, "goes", 47, 0, 1);
        Edge.due(1, x, "goes", 0, 99, 0);
        Edge.due(0, x, "goes", 0, 99, 1);
        Edge.due(1L << 47, x, "goes", 47, 10, 0);
        Edge.due(1, x, "goes", 42, 70, 1);
        Edge.due(0, x, "goes", 42, 71, 1);
        x.pin(47, 1);
        Edge.due(0, x, "goes", 47, 99, 0);
        Edge.due(0, x, "goes", 47, 99, 1);
        Edge.says("Promise 15", "NO: none such.");
        Edge.refused(Edge.NO, x, "goes", Edge.of(-1, 0, 0), Edge.of(48, 0, 0), Edge.of(0, -1, 0), Edge.of(0, 100, 0), Edge.of(0, 0, -1), Edge.of(0, 0, 2), Edge.of(Edge.MIN, 0, 0), Edge.of(Edge.MAX, 0, 0), Edge.of(0, Edge.MIN, 0), Edge.of(0, Edge.MAX, 0), Edge.of(0, 0, Edge.MIN), Edge.of(0, 0, Edge.MAX));
    }

    private static void left() {
        Edge.says("Promise 16", "A RUN from c: what is left at another LOOP (or it); -1: that one doesn't go.");
        StitchLetFall x = new StitchLetFall();
        Edge.due(0, x, "left", 42, 0, 42);
        Edge.due(99, x, "left", 42, 99, 42);
        Edge.due(-1, x, "left", 42, 10, 36);
        Edge.due(1, x, "left", 42, 11, 36);
        Edge.due(1, x, "left", 42, 71, 0);
        Edge.due(-1, x, "left", 42, 70, 0);
        Edge.due(-1, x, "left", 42, 99, 43);
        Edge.due(-1, x, "left", 36, 99, 42);
        Edge.due(0, x, "left", 0, 0, 0);
        x.pin(42, 1);
        Edge.due(-1, x, "left", 42, 99, 42);
        Edge.says("Promise 16", "-5: no such LOOPS; -7: PULL.");
        Edge.refused(-5, x, "left", Edge.of(-1, 0, 0), Edge.of(48, 0, 0), Edge.of(0, 0, -1), Edge.of(0, 0, 48), Edge.of(0, 100, 48), Edge.of(48, 100, 0), Edge.of(Edge.MIN, 0, 0), Edge.of(Edge.MAX, 0, 0), Edge.of(0, 0, Edge.MIN), Edge.of(0, 0, Edge.MAX));
        Edge.refused(-7, x, "left", Edge.of(0, -1, 0), Edge.of(0, 100, 0), Edge.of(0, 100, 1), Edge.of(0, Edge.MIN, 0), Edge.of(0, Edge.MAX, 0));
    }

    private static void most() {
        Edge.says("Promise 17", "The LOOP from which most go, of like ones the first (what 0), how many (1).");
        StitchLetFall x = new StitchLetFall();
        Edge.due(0, x, "most", 0, 0);
        Edge.due(1, x, "most", 0, 1);
        Edge.due(6, x, "most", 11, 0);
        Edge.due(2, x, "most", 11, 1);
        Edge.due(42, x, "most", 99, 0);
        Edge.due(8, x, "most", 99, 1);
        for (int p = 0; p < 5; p++) {
            x.pin(p, 1);
        }
        Edge.due(47, x, "most", 99, 0);
        Edge.due(8, x, "most", 99, 1);
        StitchLetFall y = free(new StitchLetFall());
        Edge.due(0, y, "most", 99, 0);
        Edge.due(0, y, "most", 99, 1);
        y.pin(47, 0);
        Edge.due(47, y, "most", 0, 0);
        Edge.due(1, y, "most", 0, 1);
        Edge.says("Promise 17", "BAD.");
        Edge.refused(-2, x, "most", Edge.of(-1, 0), Edge.of(100, 0), Edge.of(0, -1), Edge.of(0, 2), Edge.of(Edge.MIN, 0), Edge.of(Edge.MAX, 0), Edge.of(0, Edge.MIN), Edge.of(0, Edge.MAX));
    }

    private static void column() {
        Edge.says("Promise 18", "A RUN from all LOOPS of a PLACE: what 0 how many go, 1 how many of other PLACES.");
        StitchLetFall x = new StitchLetFall();
        for (int p = 0; p < 6; p++) {
            Edge.due(8, x, "column", p, 0, 0);
            Edge.due(0, x, "column", p, 99, 1);
        }
        // Down from ROW 7 through the neighbour's PLACE: 41 .. 5 hang by 46 alone.
        x.knit(46, JOINED, 0);
        x.knit(47, THROWN, 0);
        Edge.due(8 + 1, x, "column", 4, 11, 0);
        Edge.due(1, x, "column", 4, 11, 1);
        Edge.due(0, x, "column", 4, 10, 1);
        Edge.due(15, x, "column", 4, 99, 0);
        Edge.due(7, x, "column", 4, 99, 1);
        Edge.due(8, x, "column", 5, 99, 0);
        StitchLetFall y = free(new StitchLetFall());
        Edge.due(0, y, "column", 0, 99, 0);
        Edge.due(0, y, "column", 5, 99, 1);
        Edge.says("Promise 18", "-5: no such PLACE; -7: PULL, what.");
        Edge.refused(-5, x, "column", Edge.of(-1, 0, 0), Edge.of(6, 0, 0), Edge.of(6, 100, 2), Edge.of(47, 0, 0), Edge.of(Edge.MIN, 0, 0), Edge.of(Edge.MAX, 0, 0));
        Edge.refused(-7, x, "column", Edge.of(0, -1, 0), Edge.of(0, 100, 0), Edge.of(5, 0, -1), Edge.of(5, 0, 2), Edge.of(0, Edge.MIN, 0), Edge.of(0, Edge.MAX, 0), Edge.of(0, 0, Edge.MIN), Edge.of(0, 0, Edge.MAX));
    }

    private static void line() {
        Edge.says("Promise 19", "The least PULL by which more than n (0 .. 48) go; -1: none.");
        StitchLetFall x = new StitchLetFall();
        Edge.due(0, x, "line", 42, 0);
        Edge.due(11, x, "line", 42, 1);
        Edge.due(71, x, "line", 42, 7);
        Edge.due(-1, x, "line", 42, 8);
        Edge.due(-1, x, "line", 42, 48);
        Edge.due(0, x, "line", 0, 0);
        Edge.due(-1, x, "line", 0, 1);
        x.pin(0, 1);
        Edge.due(-1, x, "line", 0, 0);
        StitchLetFall y = Tell.under("rub 98;minutes 1;seen 1;");
        Edge.due(99, y, "line", 42, 1);
        StitchLetFall z = Tell.under(ALL_RUB);
        Edge.due(-1, z, "line", 42, 1);
        // Of a law by which more PULL takes fewer: the least one, not from which on.
        StitchLetFall w = Tell.under("rub 99*(5<pull);minutes 1;seen 1;");
        Edge.due(1, w, "line", 42, 7);
        Edge.says("Promise 19", "-5: no such LOOP; -7: n.");
        Edge.refused(-5, x, "line", Edge.of(-1, 0), Edge.of(48, 0), Edge.of(48, 49), Edge.of(Edge.MIN, 0), Edge.of(Edge.MAX, 0));
        Edge.refused(-7, x, "line", Edge.of(0, -1), Edge.of(0, 49), Edge.of(47, Edge.MIN), Edge.of(47, Edge.MAX));
    }

    private static void reach() {
        Edge.says("Promise 20", "The least PULL by which another LOOP (or it) goes; -1: none.");
        StitchLetFall x = new StitchLetFall();
        Edge.due(0, x, "reach", 42, 42);
        Edge.due(0, x, "reach", 0, 0);
        Edge.due(11, x, "reach", 47, 41);
        Edge.due(71, x, "reach", 47, 5);
        Edge.due(-1, x, "reach", 42, 43);
        Edge.due(-1, x, "reach", 0, 6);
        x.pin(0, 1);
        Edge.due(-1, x, "reach", 42, 0);
        Edge.due(-1, x, "reach", 0, 0);
        StitchLetFall y = Tell.under("rub 98;minutes 1;seen 1;");
        Edge.due(99, y, "reach", 42, 36);
        Edge.due(-1, y, "reach", 42, 30);
        StitchLetFall z = Tell.under(ALL_RUB);
        Edge.due(-1, z, "reach", 42, 36);
        StitchLetFall w = Tell.under("rub 99*(5<pull);minutes 1;seen 1;");
        Edge.due(1, w, "reach", 42, 0);
        Edge.says("Promise 20", "-5: no such LOOPS.");
        Edge.refused(-5, x, "reach", Edge.of(-1, 0), Edge.of(48, 0), Edge.of(0, -1), Edge.of(0, 48), Edge.of(Edge.MIN, 0), Edge.of(Edge.MAX, 0), Edge.of(0, Edge.MIN), Edge.of(0, Edge.MAX));
    }

    private static void two(StitchLetFall x, int pull, int pair, int many, int more) {
        Edge.due(pair, x, "two", pull, 0);
        Edge.due(many, x, "two", pull, 1);
        Edge.due(more, x, "two", pull, 2);
    }

    private static void two() {
        Edge.says("Promise 21", "The two LOOPS from which, both dropped, most go (what 0: 100 times the lesser, and the other; of like ones the first by these), how many (1),");
        StitchLetFall x = new StitchLetFall();
        two(x, 0, 1, 2, 0);
        two(x, 11, 607, 4, 0);
        two(x, 99, 4243, 16, 0);
        two(free(new StitchLetFall()), 99, 1, 0, 0);
        two(free(new StitchLetFall(), 46, 47), 99, 4647, 2, 0);
        two(free(new StitchLetFall(), 1, 47), 99, 147, 2, 0);
        // One of the two needn't go: the first of all that may be it, lesser or other.
        two(free(new StitchLetFall(), 0), 99, 1, 1, 0);
        two(free(new StitchLetFall(), 47), 99, 47, 1, 0);
        two(free(new StitchLetFall(), 42, 36, 30), 99, 42, 3, 0);
        // Of one pair of PLACES, and of two.
        x.pin(37, 1);
        two(x, 99, 4244, 16, 0);
        Edge.says("Promise 21", "BAD.");
        Edge.refused(-2, x, "two", Edge.of(-1, 0), Edge.of(100, 0), Edge.of(0, -1), Edge.of(0, 3), Edge.of(Edge.MIN, 0), Edge.of(Edge.MAX, 0), Edge.of(0, Edge.MIN), Edge.of(0, Edge.MAX));
    }

    private static void twoThatMeet() {
        Edge.says("Promise 21", "how many that is more than go from either alone");
        for (int p = 0; p < 6; p += 2) {
            for (int top = 2; top < 8; top++) {
                StitchLetFall x = free(new StitchLetFall());
                for (int r = 0; r <= top; r++) {
                    x.pin(6 * r + p, 0);
                    x.pin(6 * r + p + 1, 0);
                }
                x.knit(6 * top + p, JOINED, 0);
                x.knit(6 * top + p + 1, JOINED, 0);
                // Each alone goes by itself, both let both columns go.
                two(x, 99, 100 * (6 * top + p) + 6 * top + p + 1, 2 * top + 2, 2 * top);
                two(x, 10, 1 + 101 * p, 2, 0);
                two(x, 11, 607 + 101 * p, 4, 0);
            }
        }
        // Of one column: what goes from each of the two alone goes from either, and is counted once.
        StitchLetFall y = free(new StitchLetFall(), 42, 36, 30, 24, 18, 12, 6, 0);
        two(y, 99, 42, 8, 0);
        two(y, 0, 6, 2, 0);
    }

    private static void twoByWhichFewerGo() {
        Edge.says("Promise 21", "(less than 0, if more do so) (2).");
        // From 42 alone go 42, 36, 30, 24, from 30 alone 30, 25, 19, 13, 7, 1: what has much PULL goes by 25, what has little by 24.
        StitchLetFall x = Tell.under("rub 1+98*((row=4)*((place=1)=(pull<99))or(row<4)*(pull=99));minutes 1;seen 1;");
        free(x, 42, 36, 30, 24, 25, 19, 13, 7, 1);
        x.knit(30, JOINED, 0);
        x.knit(31, THROWN, 0);
        two(x, 99, 3042, 8, -1);
    }

    private static void all() {
        Edge.says("Promise 22", "The least PULL from which on, up to 99, never fewer go than by 99.");
        StitchLetFall x = new StitchLetFall();
        Edge.due(71, x, "all", 42);
        Edge.due(0, x, "all", 0);
        Edge.due(11, x, "all", 6);
        x.pin(0, 1);
        Edge.due(61, x, "all", 42);
        Edge.due(0, x, "all", 0);
        StitchLetFall y = Tell.under("rub 98;minutes 1;seen 1;");
        Edge.due(99, y, "all", 42);
        StitchLetFall z = Tell.under(ALL_RUB);
        Edge.due(0, z, "all", 42);
        // Fewer by 98 alone; more by less PULL than by 99; fewer by none but 40.
        StitchLetFall w = Tell.under("rub 99*(pull=98);minutes 1;seen 1;");
        Edge.due(99, w, "all", 42);
        StitchLetFall v = Tell.under("rub 99*(50<pull);minutes 1;seen 1;");
        Edge.due(0, v, "all", 42);
        StitchLetFall u = Tell.under("rub 99*(pull=40);minutes 1;seen 1;");
        Edge.due(41, u, "all", 42);
        // What would be by more than 99 is of no account.
        StitchLetFall t = Tell.under("rub 99*(99<pull or pull=1);minutes 1;seen 1;");
        Edge.due(2, t, "all", 42);
        Edge.says("Promise 22", "-5: no such LOOP.");
        Edge.refused(-5, x, "all", Edge.of(-1), Edge.of(48), Edge.of(Edge.MIN), Edge.of(Edge.MAX));
    }

    private static void counts() {
        Edge.says("Promise 23", "Of a ROW what 0 how many of its LOOPS any goes THROUGH, 1 how many PLACES of the one below its LOOPS go THROUGH (ROW 0: 0), 2 how many of its LOOPS go THROUGH none, or more than one.");
        StitchLetFall x = new StitchLetFall();
        int[][] byKind = {{6, 6, 0}, {6, 6, 0}, {6, 6, 0}, {6, 6, 6}, {0, 0, 6}, {6, 6, 0}};
        for (int r = 1; r < 8; r++) {
            for (int kind = 0; kind <= 5; kind++) {
                x.row(r, kind, 9);
                Edge.due(byKind[kind][0], x, "counts", r - 1, 0);
                Edge.due(byKind[kind][1], x, "counts", r, 1);
                Edge.due(byKind[kind][2], x, "counts", r, 2);
            }
        }
        for (int kind = 0; kind <= 5; kind++) {
            x.row(0, kind, 0);
            x.row(7, kind, 0);
            Edge.due(0, x, "counts", 0, 1);
            Edge.due(byKind[kind][2], x, "counts", 0, 2);
            Edge.due(0, x, "counts", 7, 0);
        }
        x.row(7, THROWN, 0);
        x.knit(42, JOINED, 0);
        x.knit(47, CROSSED, 0);
        // THROUGH 36, 37 and 40.
        Edge.due(3, x, "counts", 6, 0);
        Edge.due(3, x, "counts", 7, 1);
        Edge.due(5, x, "counts", 7, 2);
        x.knit(43, 0, 0);
        Edge.due(3, x, "counts", 6, 0);
        Edge.due(3, x, "counts", 7, 1);
        Edge.due(4, x, "counts", 7, 2);
        Edge.says("Promise 23", "-5: no such ROW; -7: what.");
        Edge.refused(-5, x, "counts", Edge.of(-1, 0), Edge.of(8, 0), Edge.of(8, 3), Edge.of(Edge.MIN, 0), Edge.of(Edge.MAX, 0));
        Edge.refused(-7, x, "counts", Edge.of(0, -1), Edge.of(0, 3), Edge.of(7, Edge.MIN), Edge.of(7, Edge.MAX));
    }

    private static void slip() {
        Edge.says("Promise 24", "A SHEET tells counts(.., 1) of all 8 ROWS: the first ROW (from 1) of which it is otherwise; -1: none.");
        StitchLetFall x = new StitchLetFall();
        for (int s = 0; s < 4; s++) {
            x.sheet(s, s % 3, 8);
            Edge.due(1, x, "slip", s);
            for (int r = 1; r < 8; r++) {
                x.cell(s, r, 6);
                Edge.due(r < 7 ? r + 1 : -1, x, "slip", s);
            }
            x.cell(s, 0, 5);
            Edge.due(-1, x, "slip", s);
        }
        x.row(7, THROWN, 0);
        Edge.due(7, x, "slip", 0);
        x.cell(0, 7, 0);
        Edge.due(-1, x, "slip", 0);
        x.row(1, THROWN, 0);
        Edge.due(1, x, "slip", 0);
        x.cell(2, 7, 262);
        Edge.due(1, x, "slip", 2);
        Edge.says("Promise 24", "BAD: SHEET; -11; BAD: its size isn't 8.");
        Edge.refused(-2, x, "slip", Edge.of(-1), Edge.of(4), Edge.of(Edge.MIN), Edge.of(Edge.MAX));
        x.sheet(3, -1, 0);
        Edge.due(-11, x, "slip", 3);
        for (int size : new int[] {0, 1, 7, 9, 48}) {
            x.sheet(3, 2, size);
            Edge.due(-2, x, "slip", 3);
        }
    }

    private static void wrong() {
        Edge.says("Promise 25", "ROWS (bits) with any that is LOOSE.");
        StitchLetFall x = new StitchLetFall();
        Edge.due(0, x, "wrong");
        x.knit(6, THROWN, 0);
        Edge.due(1, x, "wrong");
        x.knit(47, THROWN, 0);
        Edge.due(1 | 64, x, "wrong");
        x.knit(46, THROWN, 0);
        Edge.due(1 | 64, x, "wrong");
        for (int r = 1; r < 8; r++) {
            x.row(r, THROWN, 0);
        }
        Edge.due(127, x, "wrong");
        for (int c = 18; c < 23; c++) {
            x.pin(c, 1);
        }
        Edge.due(127, x, "wrong");
        x.pin(23, 1);
        Edge.due(127 - 8, x, "wrong");
        x.row(0, BOUND, 0);
        Edge.due(127 - 8 - 1, x, "wrong");
        x.row(2, PURL, 0);
        Edge.due(127 - 8 - 1 - 2, x, "wrong");
    }
}
