/** The bounds that the document's beginning and its terms 1 name of LOOPS and KINDS. */
public final class EdgeKindsTest {
    private static final int LOOP = 0, PURL = 1, CROSSED = 2, JOINED = 3, THROWN = 4, BOUND = 5;
    private static final int[] NEIGHBOUR = {1, 0, 3, 2, 5, 4};

    public static void main(String[] args) {
        used();
        numbers();
        atFirst();
        loop();
        purl();
        crossed();
        joined();
        thrown();
        bound();
        asAbove();
        keeping();
        Edge.end();
    }

    private static void used() {
        Edge.says("What it is", "An object is used for at most 512 calls after it has been made; what later calls answer is free.");
        StitchLetFall x = new StitchLetFall();
        for (int call = 1; call <= 511; call++) {
            x.pin(42, call % 2);
        }
        Edge.due(1, x, "told", 42, 4);
        StitchLetFall y = new StitchLetFall();
        for (int call = 1; call <= 511; call++) {
            y.run(42, call % 100, call % 4);
        }
        Edge.due(8, y, "run", 42, 99, 0);
        StitchLetFall z = new StitchLetFall();
        for (int call = 1; call <= 510; call += 2) {
            z.feed(1, '?', 0, 0, 0, 0);
            z.text();
        }
        Edge.due(-2, z, "force", 1);
        Edge.due(1, z, "count", 2);
    }

    private static void numbers() {
        Edge.says("Terms 1", "LOOPS 0 .. 47: 6 times the ROW (0 .. 7, 7 on the needle), and the PLACE (0 .. 5);");
        StitchLetFall x = Tell.under("rub row*10+place;minutes 1;seen 1;");
        int[] loops = {0, 5, 6, 11, 12, 35, 36, 41, 42, 47};
        int[] rowsAndPlaces = {0, 5, 10, 15, 20, 55, 60, 65, 70, 75};
        for (int i = 0; i < loops.length; i++) {
            Edge.due(rowsAndPlaces[i], x, "asks", 0, loops[i], 0);
        }
        Edge.refused(-5, x, "told", Edge.of(-1, 0), Edge.of(48, 0), Edge.of(Edge.MIN, 0), Edge.of(Edge.MAX, 0));
        Edge.refused(-5, x, "counts", Edge.of(-1, 0), Edge.of(8, 0), Edge.of(Edge.MIN, 0), Edge.of(Edge.MAX, 0));
        Edge.refused(-5, x, "column", Edge.of(-1, 0, 0), Edge.of(6, 0, 0), Edge.of(Edge.MIN, 0, 0), Edge.of(Edge.MAX, 0, 0));
        Edge.due(8, x, "column", 0, 0, 0);
        Edge.due(8, x, "column", 5, 0, 0);
        for (int c = 0; c < 48; c++) {
            Edge.due(c < 42 ? 1L << c + 6 : 0, x, "hangs", c, 0);
        }
    }

    private static void atFirst() {
        Edge.says("Terms 1", "each of a KIND with MORE (0 .. 9; LOOP, 0 at first).");
        StitchLetFall x = new StitchLetFall();
        for (int c = 0; c < 48; c++) {
            Edge.due(LOOP, x, "told", c, 0);
            Edge.due(0, x, "told", c, 1);
        }
        Edge.due(LOOP, x, "knit", 47, BOUND, 9);
        Edge.due(BOUND, x, "told", 47, 0);
        Edge.due(9, x, "told", 47, 1);
        Edge.due(BOUND, x, "knit", 47, LOOP, 0);
        Edge.due(0, x, "told", 47, 1);
        Edge.refused(-7, x, "knit", Edge.of(0, 0, 10), Edge.of(0, 0, -1), Edge.of(0, 6, 0), Edge.of(0, -1, 0));
        Edge.says("Terms 1", "PINNED or not, MENDED or not (not at first).");
        StitchLetFall y = new StitchLetFall();
        for (int c = 0; c < 48; c++) {
            Edge.due(0, y, "told", c, 4);
            Edge.due(0, y, "told", c, 5);
        }
        Edge.due(0, y, "pin", 0, 1);
        Edge.due(1, y, "told", 0, 4);
        Edge.due(0, y, "told", 0, 5);
        Edge.due(1, y, "mend", 47, 0);
        Edge.due(1, y, "told", 47, 5);
        Edge.due(0, y, "told", 47, 4);
    }

    /** A KIND's PLACES below, told and as a RUN has them, for each PLACE. */
    private static void goesThrough(int kind, boolean own, boolean neighbour) {
        StitchLetFall x = new StitchLetFall();
        x.row(7, THROWN, 0);
        for (int p = 0; p < 6; p++) {
            long places = (own ? 1L << p : 0) | (neighbour ? 1L << NEIGHBOUR[p] : 0);
            x.knit(42 + p, kind, 0);
            Edge.due(places, x, "told", 42 + p, 2);
            if (kind != BOUND) {
                Edge.due(1L << 42 + p | places << 36, x, "goes", 42 + p, 11, 0);
            }
            Edge.due(own ? 1L << 42 + p : 0, x, "hangs", 36 + p, 0);
            Edge.due(neighbour ? 1L << 42 + p : 0, x, "hangs", 36 + NEIGHBOUR[p], 0);
            x.knit(42 + p, THROWN, 0);
        }
    }

    /** Under a dropped one, a KIND with MORE holds by just what it RUBS, and goes by 1 more. */
    private static void rubs(int kind, int more, int rub) {
        for (int p = 0; p < 6; p++) {
            StitchLetFall x = new StitchLetFall();
            x.knit(36 + p, kind, more);
            Edge.due(-1, x, "left", 42 + p, rub, 36 + p);
            Edge.due(1, x, "left", 42 + p, rub + 1, 36 + p);
        }
    }

    private static void face(int kind, int face) {
        StitchLetFall x = Tell.under("rub face;minutes 1;seen 1;");
        for (int c : new int[] {0, 21, 47}) {
            x.knit(c, kind, 9);
            Edge.due(face, x, "told", c, 3);
            Edge.due(face, x, "asks", 0, c, 0);
        }
    }

    private static void loop() {
        Edge.says("Terms 1", "KINDS: which PLACES of the ROW below it goes THROUGH, how much it RUBS, the text saying so much, whether it HOLDS by itself, its FACE. 0 LOOP: its own; that; no; 0.");
        goesThrough(LOOP, true, false);
        rubs(LOOP, 0, 10);
        rubs(LOOP, 9, 19);
        face(LOOP, 0);
        Edge.due(1, new StitchLetFall(), "run", 0, 0, 0);
    }

    private static void purl() {
        Edge.says("Terms 1", "1 PURL (a LOOP): MORE more; 1.");
        goesThrough(PURL, true, false);
        // The text says 10 and MORE, less 3 for the FACE.
        rubs(PURL, 0, 7);
        rubs(PURL, 1, 9);
        rubs(PURL, 9, 25);
        face(PURL, 1);
        StitchLetFall x = new StitchLetFall();
        x.knit(0, PURL, 9);
        Edge.due(1, x, "run", 0, 0, 0);
        Edge.due(0, x, "taken", 0, LOOP);
    }

    private static void crossed() {
        Edge.says("Terms 1", "2 CROSSED (a LOOP): THROUGH its neighbour's (of 0 and 1, 2 and 3, 4 and 5 the other one).");
        goesThrough(CROSSED, false, true);
        StitchLetFall x = new StitchLetFall();
        x.row(6, CROSSED, 4);
        for (int p = 0; p < 6; p++) {
            Edge.due(1L << NEIGHBOUR[p], x, "told", 36 + p, 2);
            Edge.due(14 + 1, x, "reach", 42 + p, 36 + p);
            Edge.due(14 + 10 + 1, x, "reach", 42 + p, 30 + NEIGHBOUR[p]);
            Edge.due(-1, x, "reach", 42 + p, 30 + p);
        }
        Edge.due(36, x, "taken", 36, LOOP);
    }

    private static void joined() {
        Edge.says("Terms 1", "3 JOINED (a CROSSED): its own, too; RUBS twice as much.");
        goesThrough(JOINED, true, true);
        rubs(JOINED, 0, 20);
        rubs(JOINED, 9, 38);
        StitchLetFall x = Tell.under("rub 49;minutes 1;seen 1;");
        x.knit(36, JOINED, 0);
        Edge.due(1, x, "left", 42, 99, 36);
        StitchLetFall y = Tell.under("rub 50;minutes 1;seen 1;");
        y.knit(36, JOINED, 0);
        Edge.due(-1, y, "left", 42, 99, 36);
        StitchLetFall z = Tell.under("rub 0-50;minutes 1;seen 1;");
        z.knit(36, JOINED, 0);
        Edge.due(99, z, "left", 42, 99, 36);
        Edge.due(36, z, "taken", 36, CROSSED);
    }

    private static void thrown() {
        Edge.says("Terms 1", "4 THROWN (a LOOP): THROUGH none.");
        goesThrough(THROWN, false, false);
        StitchLetFall x = new StitchLetFall();
        x.knit(42, THROWN, 0);
        Edge.due(1L << 42, x, "goes", 42, 99, 0);
        Edge.due(0, x, "goes", 42, 99, 1);
        Edge.due(0, x, "hangs", 42, 2);
        Edge.due(1L << 36, x, "loose");
        Edge.due(42, x, "taken", 42, LOOP);
    }

    private static void bound() {
        Edge.says("Terms 1", "5 BOUND (a PURL): HOLDS; FACE 1 less a PURL's.");
        goesThrough(BOUND, true, false);
        face(BOUND, 0);
        StitchLetFall x = new StitchLetFall();
        x.knit(42, BOUND, 0);
        x.knit(37, BOUND, 0);
        Edge.due(0, x, "goes", 42, 99, 0);
        Edge.due(1L << 43, x, "goes", 43, 99, 0);
        Edge.due(1L << 37, x, "goes", 43, 99, 1);
        Edge.due(42, x, "taken", 42, PURL);
    }

    private static void asAbove() {
        Edge.says("Terms 1", "(Whatever isn't told is as of the KIND above; in ROW 0 THROUGH means nothing.)");
        rubs(CROSSED, 0, 10);
        rubs(CROSSED, 9, 19);
        rubs(THROWN, 0, 10);
        rubs(THROWN, 9, 19);
        face(CROSSED, 0);
        face(JOINED, 0);
        face(THROWN, 0);
        for (int kind : new int[] {LOOP, PURL, CROSSED, JOINED, THROWN}) {
            StitchLetFall x = new StitchLetFall();
            x.knit(42, kind, 0);
            x.knit(0, kind, 0);
            x.knit(5, kind, 0);
            Edge.due(1, x, "left", 42, 1, 42);
            Edge.due(1L, x, "goes", 0, 99, 0);
            Edge.due(0, x, "goes", 0, 99, 1);
            Edge.due(0, x, "hangs", 0, 2);
            Edge.due(0, x, "hangs", 5, 2);
            Edge.due(0, x, "counts", 0, 1);
        }
    }

    private static void keeping() {
        Edge.says("Terms 1", "A LOOP KEEPS, if it HOLDS, or is PINNED.");
        for (int kind = LOOP; kind <= BOUND; kind++) {
            StitchLetFall x = new StitchLetFall();
            x.knit(26, THROWN, 0);
            x.knit(20, kind, 0);
            long free = kind == BOUND ? 0 : 1L << 20;
            long below = kind == CROSSED || kind == THROWN ? 1L << 14 : 0;
            Edge.due(kind == BOUND ? 7 : 8, x, "column", 2, 0, 0);
            Edge.due(free, x, "goes", 20, 0, 0);
            Edge.due(free | below, x, "loose");
            x.pin(20, 1);
            Edge.due(7, x, "column", 2, 0, 0);
            Edge.due(0, x, "goes", 20, 99, 0);
            Edge.due(below, x, "loose");
            x.pin(20, 0);
            Edge.due(free, x, "goes", 20, 0, 0);
            Edge.due(free | below, x, "loose");
        }
    }
}
