/** Promises 41 to 45: SHEETS, and what is taken for what. */
public final class HostTest {
    public static void main(String[] args) {
        sheets();
        cells();
        copies();
        knits();
        knitsPartly();
        taken();
        takenRows();
        Due.end();
    }

    private static void sheets() {
        StitchLetFall x = new StitchLetFall();
        Due.due("P41: SHEET 4", x.sheet(4, 0, -1), -2);
        Due.due("P41: SHEET -1", x.sheet(-1, 0, 0), -2);
        Due.due("P41: sort 3", x.sheet(0, 3, -1), -2);
        Due.due("P41: sort -2", x.sheet(0, -2, 0), -2);
        Due.due("P41: size 49", x.sheet(0, 0, 49), -2);
        Due.due("P41: size -1", x.sheet(0, 0, -1), -14);
        Due.due("P41: the least size", x.sheet(0, 0, Integer.MIN_VALUE), -14);
        Due.due("P41: still missing", x.cell(0, 0, 0), -11);
        for (int s = 0; s < 4; s++) {
            for (int sort = 0; sort < 3; sort++) {
                Due.due("P41: sort " + sort, x.sheet(s, sort, 48), 1);
                Due.due("P41: its last", x.cell(s, 47, 9), 1);
            }
        }
        x.cell(0, 0, 9);
        Due.due("P41: refused, nothing changes", x.sheet(0, 1, 49) + x.cell(0, 47, 9), -1);
        x.sheet(0, 2, 48);
        for (int c = 0; c < 48; c++) {
            x.pin(c, 1);
        }
        Due.due("P41: all 0 anew", x.judge(0, 0, 0), -1);
        Due.due("P41: of 0", x.sheet(0, 2, 0), 1);
        Due.due("P41: no place in it", x.cell(0, 0, 0), -12);
        Due.due("P41: missing, n -5", x.sheet(0, -1, -5), 1);
        Due.due("P41: missing, n 99", x.sheet(1, -1, 99), 1);
        Due.due("P41: they are", x.cell(0, 0, 0) + x.cell(1, 0, 0), -22);
    }

    private static void cells() {
        StitchLetFall x = new StitchLetFall();
        Due.due("P42: SHEET 4", x.cell(4, -1, 0), -2);
        Due.due("P42: SHEET -1", x.cell(-1, 0, 0), -2);
        Due.due("P42: missing, ahead of the place", x.cell(0, -1, 0), -11);
        x.sheet(0, 0, 3);
        Due.due("P42: place 3", x.cell(0, 3, 0), -12);
        Due.due("P42: place -1", x.cell(0, -1, 0), -12);
        Due.due("P42: place 2", x.cell(0, 2, 0), 1);
        // A number's lowest bits, seen as KIND by knits().
        int[] tellsTwo = {256 + 2, 65536 + 2, 2};
        for (int sort = 0; sort < 3; sort++) {
            x.sheet(sort, sort, 3);
            x.cell(sort, 0, 20 + sort);
            x.cell(sort, 1, tellsTwo[sort]);
            Due.due("P42: knitted by sort " + sort, x.knits(sort, sort, 0, 1), 1);
            Due.due("P42: KIND by sort " + sort, x.told(20 + sort, 0), 2);
        }
        x.cell(1, 1, 256 + 2);
        Due.due("P42: 258 is itself in shorts", x.knits(1, 1, 0, 1), 0);
        x.cell(2, 1, 65536 + 2);
        Due.due("P42: 65538 is itself in ints", x.knits(2, 2, 0, 1), 0);
        x.cell(2, 1, Integer.MIN_VALUE + 2);
        Due.due("P42: all 32 bits of ints", x.knits(2, 2, 0, 1), 0);
        x.cell(0, 1, 255);
        Due.due("P42: 255 is no KIND in bytes", x.knits(0, 0, 0, 1), 0);
    }

    private static void copies() {
        StitchLetFall x = new StitchLetFall();
        Due.due("P43: SHEET 4", x.copy(4, 0, 0, 0, 0), -2);
        Due.due("P43: SHEET -1", x.copy(-1, 0, 0, 0, 0), -2);
        Due.due("P43: other 4", x.copy(0, 0, 4, 0, 0), -2);
        Due.due("P43: other -1", x.copy(0, 0, -1, 0, 0), -2);
        Due.due("P43: both missing", x.copy(0, -1, 1, 0, 0), -11);
        Tell.ints(x, 0, 0, 6, 5, 4, 3, 2, 1, 6);
        Due.due("P43: other missing", x.copy(0, -1, 1, 0, 1), -11);
        Due.due("P43: the first missing", x.copy(1, 0, 0, 0, 1), -11);
        x.sheet(1, 1, 8);
        Due.due("P43: unlike sorts, ahead of the place", x.copy(0, -1, 1, 0, 1), -13);
        x.sheet(1, 2, 8);
        int[][] outside = {{-1, 0, 1}, {0, -1, 1}, {0, 0, -1}, {0, 0, 9}, {8, 0, 1}, {0, 8, 1}, {9, 0, 0}, {0, 9, 0},
            {3, 0, 6}, {0, 3, 6}, {1, 0, Integer.MAX_VALUE}, {Integer.MAX_VALUE, 0, 1}, {0, Integer.MAX_VALUE, 1},
            {0, 0, Integer.MIN_VALUE}, {Integer.MIN_VALUE, 0, Integer.MIN_VALUE}};
        for (int[] a : outside) {
            Due.due("P43: " + java.util.Arrays.toString(a), x.copy(0, a[0], 1, a[1], a[2]), -12);
        }
        Due.due("P43: none from the end", x.copy(0, 8, 1, 8, 0), 0);
        Due.due("P43: nothing came", x.slip(1), 1);
        Due.due("P43: eight", x.copy(0, 0, 1, 0, 8), 8);
        Due.due("P43: they came", x.slip(1), 2);
        Due.due("P43: forward in its own", x.copy(0, 1, 0, 2, 6), 6);
        // 0 6 6 5 4 3 2 1: ROW 3 is told wrong.
        Due.due("P43: as they were", x.slip(0), 3);
        Due.due("P43: backward in its own", x.copy(0, 2, 0, 1, 6), 6);
        // 0 6 5 4 3 2 1 1.
        Due.due("P43: as they were, too", x.slip(0), 2);
        x.sheet(2, 0, 6);
        x.sheet(3, 0, 6);
        int[] six = {1, 2, 3, 4, 4, 5};
        for (int i = 0; i < 6; i++) {
            x.cell(2, i, six[i]);
        }
        Due.due("P43: one triple of bytes", x.copy(2, 3, 3, 0, 3), 3);
        Due.due("P43: knitted by it", x.knits(3, 0, 0, 1), 1);
        Due.due("P43: LOOP 4 is", 10 * x.told(4, 0) + x.told(4, 1), 45);
    }

    private static void knits() {
        StitchLetFall x = new StitchLetFall();
        Due.due("P44: SHEET 4", x.knits(4, 0, 0, 0), -2);
        Due.due("P44: SHEET -1", x.knits(-1, 0, 0, 0), -2);
        Due.due("P44: sort 3", x.knits(0, 3, 0, 0), -2);
        Due.due("P44: sort -1", x.knits(0, -1, 0, 0), -2);
        Due.due("P44: n 17", x.knits(0, 0, 0, 17), -2);
        Due.due("P44: n -1", x.knits(0, 0, 0, -1), -2);
        Due.due("P44: missing", x.knits(0, 0, -1, 1), -11);
        x.sheet(0, 1, 48);
        Due.due("P44: another sort, ahead of the place", x.knits(0, 0, -1, 1), -13);
        Due.due("P44: another sort again", x.knits(0, 2, 0, 1), -13);
        for (int k = 0; k < 16; k++) {
            x.cell(0, 3 * k, 3 * k);
            x.cell(0, 3 * k + 1, k % 6);
            x.cell(0, 3 * k + 2, k % 10);
        }
        Due.due("P44: sixteen", x.knits(0, 1, 0, 16), 16);
        for (int k = 0; k < 16; k++) {
            Due.due("P44: LOOP " + 3 * k, 10 * x.told(3 * k, 0) + x.told(3 * k, 1), 10 * (k % 6) + k % 10);
        }
        Due.due("P44: none", x.knits(0, 1, 0, 0), 0);
        Due.due("P44: none, so no place is outside", x.knits(0, 1, -1, 0), 0);
        Due.due("P44: the last", x.knits(0, 1, 45, 1), 1);
        Due.due("P44: the place behind", x.knits(0, 1, 46, 1), -12);
        Due.due("P44: far behind", x.knits(0, 1, Integer.MAX_VALUE, 16), -12);
        Due.due("P44: far ahead", x.knits(0, 1, Integer.MIN_VALUE, 16), -12);
    }

    private static void knitsPartly() {
        StitchLetFall x = new StitchLetFall();
        Tell.ints(x, 0, 9, 9, 7, 1, 2, 9, 9);
        Due.due("P44: from place 2 on", x.knits(0, 2, 2, 1), 1);
        Due.due("P44: KIND and MORE", 10 * x.told(7, 0) + x.told(7, 1), 12);
        StitchLetFall y = new StitchLetFall();
        Tell.ints(y, 0, 7, 1, 2, 48, 5, 5, 4, 6, 0, 5, 1, 10, -1, 0, 0, 2, 2, 2, 9, 3);
        Due.due("P44: two of six", y.knits(0, 2, 0, 6), 2);
        Due.due("P44: KIND 6, MORE 10 weren't", y.told(4, 0) + y.told(5, 0) + y.told(5, 1), 0);
        StitchLetFall z = new StitchLetFall();
        Tell.ints(z, 0, 7, 1, 2, 48, 5, 5, 4, 6, 0, 5, 1, 10, -1, 0, 0, 2, 2, 2, 9, 3);
        Due.due("P44: the seventh ends outside", z.knits(0, 2, 0, 7), -12);
        Due.due("P44: what stood ahead became so", 10 * z.told(7, 0) + z.told(2, 0), 12);
        Due.due("P44: that one didn't", z.told(9, 0), 0);
        StitchLetFall w = new StitchLetFall();
        Tell.ints(w, 0, 7, 1, 2, 8, 2, 3);
        Due.due("P44: ahead of all", w.knits(0, 2, -3, 2), -12);
        Due.due("P44: none became so", w.told(7, 0), 0);
    }

    private static void taken() {
        StitchLetFall x = new StitchLetFall();
        // By KIND: as which of 0 .. 5 it may be taken.
        int[] may = {1, 1 | 2, 1 | 4, 1 | 4 | 8, 1 | 16, 1 | 2 | 32};
        for (int kind = 0; kind < 6; kind++) {
            x.knit(8 * kind + 7, kind, 0);
            for (int as = 0; as < 6; as++) {
                boolean is = (may[kind] >> as & 1) != 0;
                Due.due("P45: a " + kind + " taken for a " + as, x.taken(8 * kind + 7, as), is ? 8 * kind + 7 : -13);
            }
            Due.due("P45: a LOOP is no ROW", x.taken(8 * kind + 7, 6), -13);
        }
        Due.due("P45: LOOP 0", x.taken(0, 0), 0);
        Due.due("P45: KIND 7", x.taken(56, 7), -2);
        Due.due("P45: KIND -1", x.taken(-1, -1), -2);
        Due.due("P45: place 56", x.taken(56, 0), -12);
        Due.due("P45: place -1", x.taken(-1, 6), -12);
    }

    private static void takenRows() {
        StitchLetFall x = new StitchLetFall();
        for (int r = 0; r < 8; r++) {
            Due.due("P45: no ROW " + r, x.taken(48 + r, 6), -11);
            Due.due("P45: nothing, ahead of the KIND", x.taken(48 + r, 0), -11);
        }
        x.pin(42, 1);
        x.pin(47, 1);
        x.pin(2, 1);
        Due.due("P45: ROW 7", x.taken(55, 6), 33);
        Due.due("P45: ROW 0", x.taken(48, 6), 4);
        Due.due("P45: ROW 1", x.taken(49, 6), -11);
        for (int kind = 0; kind < 6; kind++) {
            Due.due("P45: a ROW is no LOOP", x.taken(55, kind), -13);
        }
        x.knit(12, 5, 0);
        Due.due("P45: a BOUND one isn't PINNED", x.taken(50, 6), -11);
        x.pin(2, 0);
        Due.due("P45: no ROW 0 any more", x.taken(48, 6), -11);
    }
}
