/** The bounds that promises 41 to 45 name: the host. */
public final class EdgeHostTest {
    private static final int PURL = 1, CROSSED = 2, JOINED = 3, BOUND = 5;

    public static void main(String[] args) {
        sheet();
        cell();
        copy();
        copyRefused();
        knits();
        knitsRefused();
        taken();
        takenRefused();
        Edge.end();
    }

    private static void sheet() {
        Edge.says("Promise 41", "A SHEET becomes a row of n of a sort, all 0, or missing (sort -1: n does not matter): 1.");
        StitchLetFall x = new StitchLetFall();
        for (int s = 0; s < 4; s++) {
            for (int sort = 0; sort <= 2; sort++) {
                for (int n : new int[] {0, 1, 48}) {
                    Edge.due(1, x, "sheet", s, sort, n);
                    Edge.due(-12, x, "cell", s, n, 1);
                    Edge.due(n > 0 ? 1 : -12, x, "cell", s, n - 1, 1);
                    Edge.due(0, x, "knits", s, sort, 0, 0);
                }
            }
        }
        // All 0, though numbers stood there: by none that goes a SHEET of 48 is told.
        x.pin(0, 1);
        Edge.due(1, x, "sheet", 0, 2, 48);
        Edge.due(-1, x, "judge", 0, 0, 0);
        x.cell(0, 0, 1);
        x.cell(0, 47, 1);
        Edge.due(1, x, "sheet", 0, 0, 1);
        Edge.due(1, x, "sheet", 0, 2, 48);
        Edge.due(-1, x, "judge", 0, 0, 0);
        for (int n : new int[] {Edge.MIN, -1, 0, 1, 48, 49, Edge.MAX}) {
            x.sheet(0, 0, 1);
            Edge.due(1, x, "sheet", 0, -1, n);
            Edge.due(-11, x, "cell", 0, 0, 0);
        }
        Edge.due(1, x, "sheet", 0, -1, 0);
        Edge.says("Promise 41", "BAD: SHEET, sort, n above 48; -14.");
        Edge.due(1, x, "sheet", 1, 1, 3);
        Edge.refused(-2, x, "sheet", Edge.of(-1, 1, 1), Edge.of(4, 1, 1), Edge.of(4, -1, 0), Edge.of(1, -2, 1), Edge.of(1, 3, 1), Edge.of(1, 0, 49), Edge.of(4, 0, -1), Edge.of(1, 3, -1));
        Edge.refused(-2, x, "sheet", Edge.of(Edge.MIN, 1, 1), Edge.of(Edge.MAX, 1, 1), Edge.of(1, Edge.MIN, 1), Edge.of(1, Edge.MAX, 1), Edge.of(1, 2, Edge.MAX));
        Edge.refused(-14, x, "sheet", Edge.of(1, 0, -1), Edge.of(1, 1, -1), Edge.of(1, 2, -1), Edge.of(1, 2, Edge.MIN), Edge.of(0, 2, -48));
        Edge.due(1, x, "cell", 1, 2, 0);
        Edge.due(-12, x, "cell", 1, 3, 0);
        Edge.due(0, x, "knits", 1, 1, 0, 0);
        Edge.due(-11, x, "cell", 0, 0, 0);
    }

    /** What a number put into a SHEET is then, if it can be KIND CROSSED. */
    private static void put(int sort, int v, boolean isTwo) {
        StitchLetFall x = new StitchLetFall();
        x.sheet(0, sort, 3);
        x.cell(0, 0, 9);
        Edge.due(1, x, "cell", 0, 1, v);
        Edge.due(isTwo ? 1 : 0, x, "knits", 0, sort, 0, 1);
        Edge.due(isTwo ? CROSSED : 0, x, "told", 9, 0);
    }

    private static void cell() {
        Edge.says("Promise 42", "Number i of a SHEET becomes v (of bytes, shorts its lowest 8, 16 bits): 1.");
        int[] bytes = {2, 256 + 2, 65536 + 2, -256 + 2, Edge.MIN + 2};
        for (int v : bytes) {
            put(0, v, true);
            put(1, v, v == 2 || v == 65536 + 2 || v == Edge.MIN + 2);
            put(2, v, v == 2);
        }
        int[] odd = {-1, 128, 128 + 2, 255, 6, 254};
        for (int v : odd) {
            put(0, v, false);
        }
        put(1, 32768 + 2, false);
        put(1, -32768 + 2, false);
        put(1, -65536 + 2, true);
        put(2, 65536 + 2, false);
        StitchLetFall x = new StitchLetFall();
        x.sheet(3, 2, 48);
        Edge.due(1, x, "cell", 3, 0, 1);
        Edge.due(1, x, "cell", 3, 47, Edge.MAX);
        Edge.due(47, x, "judge", 3, 0, 99);
        Edge.due(1, x, "cell", 3, 47, 0);
        Edge.due(-1, x, "judge", 3, 0, 99);
        Edge.says("Promise 42", "BAD: SHEET; -11; -12.");
        Edge.refused(-2, x, "cell", Edge.of(-1, 0, 0), Edge.of(4, 0, 0), Edge.of(4, -1, 0), Edge.of(Edge.MIN, 0, 0), Edge.of(Edge.MAX, 0, 0));
        Edge.refused(-11, x, "cell", Edge.of(0, 0, 0), Edge.of(0, -1, 0), Edge.of(0, 48, 0));
        Edge.refused(-12, x, "cell", Edge.of(3, -1, 1), Edge.of(3, 48, 1), Edge.of(3, Edge.MIN, 1), Edge.of(3, Edge.MAX, 1));
        x.sheet(0, 0, 0);
        Edge.due(-12, x, "cell", 0, 0, 1);
        Edge.due(-1, x, "judge", 3, 0, 99);
    }

    private static void copy() {
        Edge.says("Promise 43", "n numbers of a SHEET, from i on, come to another one's (or its own) place j (as they were): n.");
        for (int sort = 0; sort <= 2; sort++) {
            StitchLetFall x = new StitchLetFall();
            x.sheet(0, sort, 8);
            x.sheet(3, sort, 8);
            for (int r = 0; r < 8; r++) {
                x.cell(0, r, 6);
            }
            Edge.due(0, x, "copy", 0, 0, 3, 0, 0);
            Edge.due(0, x, "copy", 0, 8, 3, 8, 0);
            Edge.due(1, x, "slip", 3);
            Edge.due(1, x, "copy", 0, 7, 3, 1, 1);
            Edge.due(2, x, "slip", 3);
            Edge.due(3, x, "copy", 0, 0, 3, 2, 3);
            Edge.due(5, x, "slip", 3);
            Edge.due(8, x, "copy", 0, 0, 3, 0, 8);
            Edge.due(-1, x, "slip", 3);
            Edge.due(-1, x, "slip", 0);
        }
        // In its own: up and down, as the numbers were ahead of it.
        StitchLetFall x = new StitchLetFall();
        x.row(1, JOINED, 0);
        Tell.ints(x, 1, 0, 6, 5, 6, 6, 6, 6, 6);
        Edge.due(2, x, "slip", 1);
        Edge.due(5, x, "copy", 1, 2, 1, 3, 5);
        // 0 6 5 5 6 6 6 6.
        x.cell(1, 2, 6);
        Edge.due(3, x, "slip", 1);
        x.cell(1, 3, 6);
        Edge.due(-1, x, "slip", 1);
        Tell.ints(x, 1, 0, 6, 6, 6, 6, 6, 5, 6);
        Edge.due(6, x, "copy", 1, 2, 1, 1, 6);
        // 0 6 6 6 6 5 6 6.
        Edge.due(5, x, "slip", 1);
        x.cell(1, 5, 6);
        Edge.due(-1, x, "slip", 1);
        Edge.due(8, x, "copy", 1, 0, 1, 0, 8);
        Edge.due(-1, x, "slip", 1);
        x.sheet(2, 0, 48);
        x.sheet(3, 0, 48);
        Edge.due(48, x, "copy", 2, 0, 3, 0, 48);
        x.sheet(2, 0, 0);
        Edge.due(0, x, "copy", 2, 0, 2, 0, 0);
        Edge.due(0, x, "copy", 2, 0, 3, 48, 0);
    }

    private static void copyRefused() {
        Edge.says("Promise 43", "BAD: SHEETS; -11; -13: unlike sorts; -12 (n below 0, too).");
        StitchLetFall x = new StitchLetFall();
        Tell.ints(x, 0, 0, 6, 6, 6, 6, 6, 6, 6);
        x.sheet(1, 2, 8);
        x.sheet(2, 1, 8);
        Edge.refused(-2, x, "copy", Edge.of(-1, 0, 0, 0, 1), Edge.of(4, 0, 0, 0, 1), Edge.of(0, 0, -1, 0, 1), Edge.of(0, 0, 4, 0, 1), Edge.of(4, 0, 3, 0, 1), Edge.of(3, 0, 4, 0, 1));
        Edge.refused(-2, x, "copy", Edge.of(Edge.MIN, 0, 0, 0, 1), Edge.of(Edge.MAX, 0, 0, 0, 1), Edge.of(0, 0, Edge.MIN, 0, 1), Edge.of(0, 0, Edge.MAX, 0, 1));
        Edge.refused(-11, x, "copy", Edge.of(3, 0, 0, 0, 1), Edge.of(0, 0, 3, 0, 1), Edge.of(3, 0, 3, 0, 0), Edge.of(3, -1, 0, -1, -1));
        Edge.refused(-13, x, "copy", Edge.of(0, 0, 2, 0, 1), Edge.of(2, 0, 0, 0, 0), Edge.of(2, -1, 0, -1, -1));
        Edge.refused(-12, x, "copy", Edge.of(0, -1, 1, 0, 1), Edge.of(0, 0, 1, -1, 1), Edge.of(0, 0, 1, 0, -1), Edge.of(0, 8, 1, 0, 1), Edge.of(0, 0, 1, 8, 1), Edge.of(0, 0, 1, 0, 9));
        Edge.refused(-12, x, "copy", Edge.of(0, 9, 1, 0, 0), Edge.of(0, 0, 1, 9, 0), Edge.of(0, -1, 1, 0, 0), Edge.of(0, 0, 1, -1, 0), Edge.of(0, 1, 1, 0, 8), Edge.of(0, 0, 1, 1, 8), Edge.of(0, 7, 1, 0, 2), Edge.of(0, 0, 1, 7, 2));
        Edge.refused(-12, x, "copy", Edge.of(0, 0, 1, 0, Edge.MIN), Edge.of(0, 0, 1, 0, Edge.MAX), Edge.of(0, 1, 1, 1, Edge.MAX), Edge.of(0, Edge.MAX, 1, 0, 1), Edge.of(0, 0, 1, Edge.MAX, 1), Edge.of(0, Edge.MIN, 1, 0, Edge.MAX), Edge.of(0, Edge.MAX, 1, Edge.MAX, Edge.MAX));
        // None came by any of them.
        Edge.due(1, x, "slip", 1);
        Edge.due(-1, x, "slip", 0);
        x.sheet(3, 2, 3);
        Edge.due(-12, x, "copy", 0, 0, 3, 0, 4);
        Edge.due(-12, x, "copy", 3, 0, 0, 0, 4);
        Edge.due(3, x, "copy", 0, 5, 3, 0, 3);
    }

    private static void knits() {
        Edge.says("Promise 44", "LOOPS by a SHEET of a sort: from a place on, three by three (LOOP, KIND, MORE, as of knit()), n of them (0 .. 16): how many became so (others are left out).");
        for (int sort = 0; sort <= 2; sort++) {
            StitchLetFall x = new StitchLetFall();
            x.sheet(sort, sort, 48);
            for (int i = 0; i < 16; i++) {
                x.cell(sort, 3 * i, 47 - i);
                x.cell(sort, 3 * i + 1, 1 + i % 5);
                x.cell(sort, 3 * i + 2, i % 10);
            }
            Edge.due(0, x, "knits", sort, sort, 0, 0);
            Edge.due(0, x, "told", 47, 0);
            Edge.due(1, x, "knits", sort, sort, 45, 1);
            Edge.due(1, x, "told", 32, 0);
            Edge.due(0, x, "told", 33, 0);
            Edge.due(16, x, "knits", sort, sort, 0, 16);
            for (int i = 0; i < 16; i++) {
                Edge.due(1 + i % 5, x, "told", 47 - i, 0);
                Edge.due(i % 10, x, "told", 47 - i, 1);
            }
            // One place further LOOP is what was KIND: 1 .. 5.
            Edge.due(0, x, "knits", sort, sort, 44, 0);
        }
        StitchLetFall y = new StitchLetFall();
        Tell.ints(y, 0, 0, BOUND, 9, 47, 0, 0, 48, 0, 0, -1, 0, 0, 9, 6, 0, 9, -1, 0, 9, 0, 10, 9, 0, -1, 8, PURL, 1);
        Edge.due(3, y, "knits", 0, 2, 0, 9);
        Edge.due(BOUND, y, "told", 0, 0);
        Edge.due(0, y, "told", 9, 0);
        Edge.due(0, y, "told", 9, 1);
        Edge.due(PURL, y, "told", 8, 0);
        // One LOOP twice: it is counted twice, the last one stays.
        Tell.ints(y, 1, 7, JOINED, 1, 7, CROSSED, 2);
        Edge.due(2, y, "knits", 1, 2, 0, 2);
        Edge.due(CROSSED, y, "told", 7, 0);
        Edge.due(2, y, "told", 7, 1);
        Tell.ints(y, 1, 7, 6, JOINED, 1, 9);
        Edge.due(1, y, "knits", 1, 2, 1, 1);
        Edge.due(JOINED, y, "told", 6, 0);
    }

    private static void knitsRefused() {
        Edge.says("Promise 44", "BAD: SHEET, sort, n; -11; -13; -12: what stood ahead became so.");
        StitchLetFall x = new StitchLetFall();
        Tell.ints(x, 0, 7, JOINED, 1, 8, CROSSED, 2, 9, PURL);
        Edge.refused(-2, x, "knits", Edge.of(-1, 0, 0, 1), Edge.of(4, 0, 0, 1), Edge.of(0, -1, 0, 1), Edge.of(0, 3, 0, 1), Edge.of(0, 2, 0, -1), Edge.of(0, 2, 0, 17), Edge.of(3, 3, 0, 1), Edge.of(3, 2, 0, 17), Edge.of(0, 1, 0, 17));
        Edge.refused(-2, x, "knits", Edge.of(Edge.MIN, 0, 0, 1), Edge.of(Edge.MAX, 0, 0, 1), Edge.of(0, Edge.MIN, 0, 1), Edge.of(0, Edge.MAX, 0, 1), Edge.of(0, 2, 0, Edge.MIN), Edge.of(0, 2, 0, Edge.MAX));
        Edge.refused(-11, x, "knits", Edge.of(1, 0, 0, 1), Edge.of(2, 2, -1, 16), Edge.of(3, 1, 0, 0));
        Edge.refused(-13, x, "knits", Edge.of(0, 0, 0, 1), Edge.of(0, 1, 0, 0), Edge.of(0, 1, -1, 1));
        Edge.refused(-12, x, "knits", Edge.of(0, 2, -1, 1), Edge.of(0, 2, -3, 2), Edge.of(0, 2, 6, 1), Edge.of(0, 2, 7, 1), Edge.of(0, 2, 8, 1), Edge.of(0, 2, Edge.MIN, 1), Edge.of(0, 2, Edge.MAX, 1), Edge.of(0, 2, Edge.MAX, 16), Edge.of(0, 2, Edge.MIN, 16));
        Edge.due(0, x, "told", 7, 0);
        Edge.due(0, x, "told", 9, 0);
        // The third one's MORE is outside: the two ahead of it became so, and it did not.
        Edge.due(-12, x, "knits", 0, 2, 0, 3);
        Edge.due(JOINED, x, "told", 7, 0);
        Edge.due(CROSSED, x, "told", 8, 0);
        Edge.due(0, x, "told", 9, 0);
        Edge.due(2, x, "knits", 0, 2, 0, 2);
        Edge.due(-12, x, "knits", 0, 2, 0, 16);
        x.sheet(3, 0, 0);
        Edge.due(0, x, "knits", 3, 0, 0, 0);
        Edge.due(-12, x, "knits", 3, 0, 0, 1);
    }

    private static void taken() {
        Edge.says("Promise 45", "What lies at place i: 0 .. 47 LOOPS, 48 .. 55 ROWS in which any is PINNED, taken for 0 .. 5 a LOOP of that KIND (also of one that is one): its number; 6 a ROW: PLACES (bits) that are PINNED.");
        StitchLetFall x = new StitchLetFall();
        int[] may = {1, 1 | 2, 1 | 4, 1 | 4 | 8, 1 | 16, 1 | 2 | 32};
        for (int c : new int[] {0, 47}) {
            for (int kind = 0; kind <= 5; kind++) {
                x.knit(c, kind, 0);
                for (int as = 0; as <= 5; as++) {
                    Edge.due((may[kind] >> as & 1) == 1 ? c : -13, x, "taken", c, as);
                }
            }
        }
        for (int r : new int[] {0, 7}) {
            int places = 0;
            for (int p = 5; p >= 0; p--) {
                x.pin(6 * r + p, 1);
                places |= 1 << p;
                Edge.due(places, x, "taken", 48 + r, 6);
            }
            x.pin(6 * r, 0);
            Edge.due(62, x, "taken", 48 + r, 6);
        }
        Edge.due(-11, x, "taken", 49, 6);
        Edge.due(-11, x, "taken", 54, 6);
        // Those of the ROWS beside it are none of its own.
        x.pin(6, 1);
        x.pin(41, 1);
        Edge.due(62, x, "taken", 48, 6);
        Edge.due(1, x, "taken", 49, 6);
        Edge.due(-11, x, "taken", 50, 6);
        Edge.due(32, x, "taken", 54, 6);
        Edge.due(62, x, "taken", 55, 6);
    }

    private static void takenRefused() {
        Edge.says("Promise 45", "BAD: kind; -12: i; -11: nothing lies there; -13.");
        StitchLetFall x = new StitchLetFall();
        Edge.refused(-2, x, "taken", Edge.of(0, -1), Edge.of(0, 7), Edge.of(56, 7), Edge.of(-1, -1), Edge.of(48, 7), Edge.of(0, Edge.MIN), Edge.of(0, Edge.MAX));
        Edge.refused(-12, x, "taken", Edge.of(-1, 0), Edge.of(56, 0), Edge.of(-1, 6), Edge.of(56, 6), Edge.of(Edge.MIN, 0), Edge.of(Edge.MAX, 6));
        for (int kind = 0; kind <= 6; kind++) {
            Edge.due(-11, x, "taken", 48, kind);
            Edge.due(-11, x, "taken", 55, kind);
        }
        x.pin(0, 1);
        x.pin(47, 1);
        for (int kind = 0; kind <= 5; kind++) {
            Edge.due(-13, x, "taken", 48, kind);
            Edge.due(-13, x, "taken", 55, kind);
            Edge.due(kind == 0 ? 0 : -13, x, "taken", 0, kind);
        }
        Edge.due(-13, x, "taken", 0, 6);
        Edge.due(-13, x, "taken", 47, 6);
        x.pin(47, 0);
        Edge.due(-11, x, "taken", 55, 6);
    }
}
