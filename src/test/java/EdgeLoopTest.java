/** The bounds that promises 1 to 13 name: a new object, the law, loops, what hangs on what. */
public final class EdgeLoopTest {
    private static final int PURL = 1, CROSSED = 2, JOINED = 3, THROWN = 4, BOUND = 5;
    private static final String LAW = "rub 1;minutes 2;seen 3;";

    public static void main(String[] args) {
        made();
        count();
        feed();
        text();
        force();
        asks();
        knit();
        row();
        told();
        pin();
        hangs();
        loose();
        back();
        Edge.end();
    }

    private static void made() {
        Edge.says("Promise 1", "All LOOPS alike, none PINNED.");
        StitchLetFall x = new StitchLetFall();
        for (int c = 0; c < 48; c++) {
            int[] due = {0, 0, 1 << c % 6, 0, 0, 0};
            for (int what = 0; what < 6; what++) {
                Edge.due(due[what], x, "told", c, what);
            }
        }
        Edge.due(0, x, "count", 0);
        // One object has nothing of another's.
        x.row(0, BOUND, 9);
        x.pin(0, 1);
        StitchLetFall y = new StitchLetFall();
        Edge.due(0, y, "told", 0, 0);
        Edge.due(0, y, "count", 0);
        Edge.due(1, x, "count", 0);
    }

    private static void count() {
        Edge.says("Promise 2", "0 PINNED ones, 1 MENDED ones, 2 TEXTS, 3 THE LAW, 4 bytes of THE TAPE.");
        StitchLetFall x = new StitchLetFall();
        int[] least = {0, 0, 1, 0, 0};
        for (int what = 0; what < 5; what++) {
            Edge.due(least[what], x, "count", what);
        }
        for (int t = 1; t < 6; t++) {
            Tell.text(x, LAW);
        }
        x.force(5);
        for (int c = 0; c < 48; c++) {
            x.mend(c, 0);
            x.pin(c, 1);
        }
        Tell.feed(x, "?".repeat(160));
        int[] most = {48, 48, 6, 5, 160};
        for (int what = 0; what < 5; what++) {
            Edge.due(most[what], x, "count", what);
        }
        Edge.says("Promise 2", "BAD.");
        Edge.refused(-2, x, "count", Edge.of(-1), Edge.of(5), Edge.of(Edge.MIN), Edge.of(Edge.MAX));
    }

    private static void feed() {
        Edge.says("Promise 3", "The first n (1 .. 5) of five bytes (0 .. 255 each) come behind THE TAPE's, one by one: how many it has.");
        StitchLetFall x = new StitchLetFall();
        int size = 0;
        for (int n = 1; n <= 5; n++) {
            size += n;
            Edge.due(size, x, "feed", n, 0, 255, 0, 255, 0);
        }
        for (int n = 1; n <= 5; n++) {
            // Which of five bytes came: n - 1 blanks, and a sign that can't stand there.
            StitchLetFall y = new StitchLetFall();
            Edge.due(n, y, "feed", n, n > 1 ? ' ' : '?', n > 2 ? ' ' : '?', n > 3 ? ' ' : '?', n > 4 ? ' ' : '?', '?');
            Edge.due(-100 - (n - 1), y, "text");
        }
        StitchLetFall z = new StitchLetFall();
        Edge.due(5, z, "feed", 5, 'r', 'u', 'b', '1', ';');
        Edge.due(10, z, "feed", 5, 'm', 'i', 'n', 'u', 't');
        Edge.due(14, z, "feed", 4, 'e', 's', '2', ';', 'x');
        Edge.due(17, z, "feed", 3, 's', 'e', 'e', 'x', 'x');
        Edge.due(19, z, "feed", 2, 'n', '3', 'x', 'x', 'x');
        Edge.due(20, z, "feed", 1, ';', 'x', 'x', 'x', 'x');
        Edge.due(1, z, "text");
        Edge.says("Promise 3", "BAD: n, any of the five;");
        Edge.refused(-2, x, "feed", Edge.of(0, 1, 1, 1, 1, 1), Edge.of(6, 1, 1, 1, 1, 1), Edge.of(-1, 1, 1, 1, 1, 1), Edge.of(Edge.MIN, 1, 1, 1, 1, 1), Edge.of(Edge.MAX, 1, 1, 1, 1, 1));
        for (int n = 1; n <= 5; n++) {
            for (int i = 1; i <= 5; i++) {
                int[] a = {n, 1, 1, 1, 1, 1};
                for (int bad : new int[] {-1, 256, Edge.MIN, Edge.MAX}) {
                    a[i] = bad;
                    Edge.due(-2, x, "feed", a);
                }
            }
        }
        Edge.due(15, x, "count", 4);
        Edge.says("Promise 3", "FULL: not all of the n have room (none comes).");
        for (int n = 1; n <= 5; n++) {
            StitchLetFall y = new StitchLetFall();
            Tell.feed(y, " ".repeat(160 - n + 1));
            Edge.due(-4, y, "feed", n, 1, 1, 1, 1, 1);
            Edge.due(161 - n, y, "count", 4);
            if (n > 1) {
                Edge.due(160, y, "feed", n - 1, 1, 1, 1, 1, 1);
            }
            Edge.due(-4, y, "feed", 1, 1, 1, 1, 1, 1);
            Edge.due(160, y, "count", 4);
        }
    }

    private static void text() {
        Edge.says("Promise 4", "THE TAPE, which is empty then (by a FAULT, too), is a TEXT: its number; -100 less the place of its FAULT.");
        StitchLetFall x = new StitchLetFall();
        Edge.due(-100, x, "text");
        Tell.feed(x, LAW);
        Edge.due(1, x, "text");
        Edge.due(0, x, "count", 4);
        Tell.feed(x, LAW + "?");
        Edge.due(-123, x, "text");
        Edge.due(0, x, "count", 4);
        Edge.due(2, x, "count", 2);
        Tell.feed(x, LAW + " ".repeat(136) + "?");
        Edge.due(-259, x, "text");
        Tell.feed(x, " ".repeat(160));
        Edge.due(-260, x, "text");
        Tell.feed(x, LAW);
        Edge.due(2, x, "text");
        Edge.due(0, x, "count", 3);
        // After ever so many FAULTS a TEXT is read as the first one was.
        StitchLetFall z = new StitchLetFall();
        for (int i = 0; i < 40; i++) {
            Tell.feed(z, "rub 7;minutes 8;seen 9;;");
            Edge.due(-123, z, "text");
        }
        Tell.feed(z, "rub 4;minutes 5;seen 6;");
        Edge.due(1, z, "text");
        z.force(1);
        Edge.due(4, z, "asks", 0, 0, 0);
        Edge.due(5, z, "asks", 1, 0, 0);
        Edge.due(6, z, "asks", 2, 0, 0);
        Edge.says("Promise 4", "FULL (ahead of the FAULT; then THE TAPE stays).");
        StitchLetFall y = new StitchLetFall();
        for (int t = 1; t < 6; t++) {
            Tell.feed(y, LAW);
            Edge.due(t, y, "text");
        }
        Edge.due(-4, y, "text");
        Tell.feed(y, "?");
        Edge.due(-4, y, "text");
        Edge.due(1, y, "count", 4);
        Tell.feed(y, LAW);
        Edge.due(-4, y, "text");
        Edge.due(24, y, "count", 4);
        Edge.due(6, y, "count", 2);
    }

    private static void force() {
        Edge.says("Promise 5", "A TEXT is THE LAW: which was.");
        StitchLetFall x = new StitchLetFall();
        Edge.due(0, x, "force", 0);
        for (int t = 1; t < 6; t++) {
            Tell.text(x, "rub " + t + ";minutes 2;seen 3;");
        }
        Edge.due(0, x, "force", 5);
        Edge.due(5, x, "asks", 0, 0, 0);
        Edge.due(5, x, "force", 5);
        Edge.due(5, x, "force", 1);
        Edge.due(1, x, "asks", 0, 0, 0);
        Edge.due(1, x, "force", 0);
        Edge.due(10, x, "asks", 0, 0, 0);
        Edge.says("Promise 5", "BAD.");
        Edge.refused(-2, x, "force", Edge.of(-1), Edge.of(6), Edge.of(Edge.MIN), Edge.of(Edge.MAX));
        StitchLetFall y = new StitchLetFall();
        Edge.due(-2, y, "force", 1);
        Tell.text(y, LAW + ";");
        Edge.due(-2, y, "force", 1);
        Tell.text(y, LAW);
        Edge.due(-2, y, "force", 2);
        Edge.due(0, y, "force", 1);
    }

    private static void asks() {
        Edge.says("Promise 6", "What part 0 rub, 1 minutes, 2 seen says of a LOOP (pull 0 .. 99).");
        StitchLetFall x = Tell.under("rub pull;minutes 10*row+place;seen 9*(pull=99);");
        for (int c : new int[] {0, 47}) {
            for (int pull : new int[] {0, 1, 98, 99}) {
                Edge.due(pull, x, "asks", 0, c, pull);
                Edge.due(c == 0 ? 0 : 75, x, "asks", 1, c, pull);
                Edge.due(pull == 99 ? 9 : 0, x, "asks", 2, c, pull);
            }
        }
        // What the TEXT says, not what a LOOP of the KIND RUBS by it.
        StitchLetFall y = Tell.under("rub 20;minutes 2;seen 3;");
        for (int kind = 0; kind <= 5; kind++) {
            y.knit(9, kind, 9);
            Edge.due(20, y, "asks", 0, 9, 0);
        }
        Edge.says("Promise 6", "-5: no such LOOP; -7: the others.");
        Edge.refused(-5, x, "asks", Edge.of(0, -1, 0), Edge.of(0, 48, 0), Edge.of(3, 48, 100), Edge.of(-1, -1, -1), Edge.of(0, Edge.MIN, 0), Edge.of(0, Edge.MAX, 0));
        Edge.refused(-7, x, "asks", Edge.of(-1, 0, 0), Edge.of(3, 0, 0), Edge.of(0, 0, -1), Edge.of(0, 0, 100), Edge.of(Edge.MIN, 0, 0), Edge.of(Edge.MAX, 0, 0), Edge.of(0, 47, Edge.MIN), Edge.of(2, 47, Edge.MAX));
    }

    private static void knit() {
        Edge.says("Promise 7", "A LOOP becomes one of a KIND with MORE: the KIND that it was.");
        StitchLetFall x = new StitchLetFall();
        for (int c : new int[] {0, 47}) {
            x.pin(c, 1);
            Edge.due(0, x, "knit", c, BOUND, 9);
            Edge.due(BOUND, x, "told", c, 0);
            Edge.due(9, x, "told", c, 1);
            Edge.due(BOUND, x, "knit", c, BOUND, 0);
            Edge.due(BOUND, x, "knit", c, 0, 0);
            Edge.due(0, x, "knit", c, JOINED, 1);
            Edge.due(1, x, "told", c, 4);
        }
        Edge.due(0, x, "told", 1, 0);
        Edge.due(0, x, "told", 46, 1);
        Edge.says("Promise 7", "-5: no such LOOP; -7: KIND, MORE.");
        Edge.refused(-5, x, "knit", Edge.of(-1, 0, 0), Edge.of(48, 0, 0), Edge.of(48, 6, 10), Edge.of(Edge.MIN, 0, 0), Edge.of(Edge.MAX, 0, 0));
        Edge.refused(-7, x, "knit", Edge.of(0, -1, 0), Edge.of(0, 6, 0), Edge.of(0, 0, -1), Edge.of(0, 0, 10), Edge.of(0, Edge.MIN, 0), Edge.of(0, Edge.MAX, 0), Edge.of(0, 0, Edge.MIN), Edge.of(0, 0, Edge.MAX));
        Edge.due(JOINED, x, "told", 0, 0);
        Edge.due(1, x, "told", 0, 1);
    }

    private static void row() {
        Edge.says("Promise 8", "All LOOPS of a ROW become so: how many were of another KIND.");
        StitchLetFall x = new StitchLetFall();
        for (int r : new int[] {0, 7}) {
            Edge.due(6, x, "row", r, BOUND, 9);
            Edge.due(0, x, "row", r, BOUND, 1);
            x.knit(6 * r, JOINED, 1);
            x.knit(6 * r + 5, THROWN, 1);
            Edge.due(2, x, "row", r, BOUND, 1);
            x.knit(6 * r + 3, 0, 1);
            Edge.due(5, x, "row", r, 0, 1);
            for (int p = 0; p < 6; p++) {
                Edge.due(0, x, "told", 6 * r + p, 0);
                Edge.due(1, x, "told", 6 * r + p, 1);
            }
        }
        Edge.due(0, x, "told", 6, 1);
        Edge.due(0, x, "told", 41, 1);
        Edge.says("Promise 8", "-5: no such ROW; -7: KIND, MORE.");
        Edge.refused(-5, x, "row", Edge.of(-1, 0, 0), Edge.of(8, 0, 0), Edge.of(8, 6, 10), Edge.of(Edge.MIN, 0, 0), Edge.of(Edge.MAX, 0, 0));
        Edge.refused(-7, x, "row", Edge.of(0, -1, 0), Edge.of(0, 6, 0), Edge.of(0, 0, -1), Edge.of(7, 0, 10), Edge.of(0, Edge.MIN, 0), Edge.of(0, Edge.MAX, 0), Edge.of(0, 0, Edge.MIN), Edge.of(0, 0, Edge.MAX));
    }

    private static void told() {
        Edge.says("Promise 9", "Of a LOOP what 0 KIND, 1 MORE, 2 PLACES (bits) it goes THROUGH (in ROW 0, too, as if there were a ROW below), 3 FACE, 4 PINNED, 5 MENDED (1, 0).");
        StitchLetFall x = new StitchLetFall();
        int[][] places = {{1, 32}, {1, 32}, {2, 16}, {3, 48}, {0, 0}, {1, 32}};
        for (int r : new int[] {0, 1, 7}) {
            for (int kind = 0; kind <= 5; kind++) {
                x.row(r, kind, 9);
                for (int end = 0; end < 2; end++) {
                    int c = 6 * r + 5 * end;
                    Edge.due(kind, x, "told", c, 0);
                    Edge.due(9, x, "told", c, 1);
                    Edge.due(places[kind][end], x, "told", c, 2);
                    Edge.due(kind == PURL ? 1 : 0, x, "told", c, 3);
                    Edge.due(0, x, "told", c, 4);
                    Edge.due(0, x, "told", c, 5);
                }
            }
        }
        x.row(7, 0, 0);
        x.mend(47, 0);
        x.pin(47, 1);
        Edge.due(1, x, "told", 47, 4);
        Edge.due(1, x, "told", 47, 5);
        x.pin(47, 0);
        x.block();
        Edge.due(0, x, "told", 47, 4);
        Edge.due(0, x, "told", 47, 5);
        Edge.says("Promise 9", "-5: no such LOOP; -7: what.");
        Edge.refused(-5, x, "told", Edge.of(-1, 0), Edge.of(48, 0), Edge.of(48, 6), Edge.of(Edge.MIN, 0), Edge.of(Edge.MAX, 0));
        Edge.refused(-7, x, "told", Edge.of(0, -1), Edge.of(47, 6), Edge.of(0, Edge.MIN), Edge.of(0, Edge.MAX));
    }

    private static void pin() {
        Edge.says("Promise 10", "A LOOP is PINNED (1), or not (0): what it was.");
        StitchLetFall x = new StitchLetFall();
        for (int c : new int[] {0, 31, 32, 47}) {
            Edge.due(0, x, "pin", c, 0);
            Edge.due(0, x, "pin", c, 1);
            Edge.due(1, x, "count", 0);
            Edge.due(1, x, "pin", c, 1);
            Edge.due(1, x, "told", c, 4);
            Edge.due(1, x, "pin", c, 0);
            Edge.due(0, x, "told", c, 4);
            Edge.due(0, x, "count", 0);
        }
        Edge.says("Promise 10", "-5: no such LOOP; -7: is.");
        Edge.refused(-5, x, "pin", Edge.of(-1, 0), Edge.of(48, 0), Edge.of(48, 2), Edge.of(64, 1), Edge.of(Edge.MIN, 1), Edge.of(Edge.MAX, 1));
        Edge.refused(-7, x, "pin", Edge.of(0, -1), Edge.of(0, 2), Edge.of(0, Edge.MIN), Edge.of(0, Edge.MAX));
        Edge.due(0, x, "count", 0);
    }

    private static void hangs() {
        Edge.says("Promise 11", "LOOPS (bits): what 0 those that go THROUGH one, 1 all that HANG on it, 2 all on which it HANGS.");
        StitchLetFall x = new StitchLetFall();
        long column = 0;
        for (int r = 0; r < 8; r++) {
            column |= 1L << 6 * r;
        }
        // The lowest, the highest; none above; none below.
        Edge.due(1L << 6, x, "hangs", 0, 0);
        Edge.due(column & ~1L, x, "hangs", 0, 1);
        Edge.due(0, x, "hangs", 0, 2);
        Edge.due(0, x, "hangs", 42, 0);
        Edge.due(0, x, "hangs", 42, 1);
        Edge.due(column & ~(1L << 42), x, "hangs", 42, 2);
        Edge.due(1L << 47, x, "hangs", 41, 0);
        x.row(1, JOINED, 0);
        Edge.due(3L << 6, x, "hangs", 0, 0);
        Edge.due(3L << 6, x, "hangs", 1, 0);
        Edge.due(3, x, "hangs", 7, 2);
        x.row(1, THROWN, 0);
        Edge.due(0, x, "hangs", 0, 0);
        Edge.due(0, x, "hangs", 0, 1);
        Edge.due(0, x, "hangs", 6, 2);
        x.row(0, JOINED, 0);
        Edge.due(0, x, "hangs", 0, 2);
        Edge.says("Promise 11", "NO: none such.");
        Edge.refused(Edge.NO, x, "hangs", Edge.of(-1, 0), Edge.of(48, 0), Edge.of(0, -1), Edge.of(0, 3), Edge.of(Edge.MIN, 0), Edge.of(Edge.MAX, 0), Edge.of(0, Edge.MIN), Edge.of(0, Edge.MAX));
    }

    private static void loose() {
        Edge.says("Promise 12", "LOOSE (bits).");
        StitchLetFall x = new StitchLetFall();
        Edge.due(0, x, "loose");
        x.knit(6, THROWN, 0);
        Edge.due(1, x, "loose");
        x.knit(47, CROSSED, 0);
        Edge.due(1 | 1L << 41, x, "loose");
        x.row(7, THROWN, 0);
        Edge.due(1 | 63L << 36, x, "loose");
        x.pin(0, 1);
        x.row(6, BOUND, 0);
        Edge.due(0, x, "loose");
    }

    private static void back() {
        Edge.says("Promise 13", "1, and how many HANG on a LOOP.");
        StitchLetFall x = new StitchLetFall();
        Edge.due(1, x, "back", 47);
        Edge.due(2, x, "back", 41);
        Edge.due(8, x, "back", 0);
        for (int r = 1; r < 8; r++) {
            x.row(r, JOINED, 0);
        }
        Edge.due(15, x, "back", 0);
        Edge.due(15, x, "back", 5);
        Edge.due(3, x, "back", 41);
        x.row(1, THROWN, 0);
        Edge.due(1, x, "back", 0);
        Edge.says("Promise 13", "-5: no such LOOP.");
        Edge.refused(-5, x, "back", Edge.of(-1), Edge.of(48), Edge.of(Edge.MIN), Edge.of(Edge.MAX));
    }
}
