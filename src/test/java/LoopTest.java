/** Promises 7 to 13 and 23 to 25: LOOPS, what hangs on what, counted rows. */
public final class LoopTest {
    public static void main(String[] args) {
        knitting();
        rows();
        telling();
        pinning();
        hanging();
        loose();
        counting();
        slipping();
        Due.end();
    }

    private static void knitting() {
        StitchLetFall x = new StitchLetFall();
        x.pin(9, 1);
        x.mend(45, 99);
        Due.due("P7: from LOOP", x.knit(9, 5, 9), 0);
        Due.due("P7: from BOUND", x.knit(9, 3, 0), 5);
        Due.due("P7: from JOINED", x.knit(9, 3, 8), 3);
        Due.due("P7: KIND", x.told(9, 0), 3);
        Due.due("P7: MORE", x.told(9, 1), 8);
        Due.due("P7: still PINNED", x.told(9, 4), 1);
        Due.due("P7: another one", x.told(10, 0) + x.told(10, 1), 0);
        x.knit(45, 1, 1);
        Due.due("P7: still MENDED", x.told(45, 5), 1);
        Due.due("P7: LOOP 48", x.knit(48, 6, 0), -5);
        Due.due("P7: LOOP -1", x.knit(-1, 0, 10), -5);
        Due.due("P7: KIND 6", x.knit(9, 6, 0), -7);
        Due.due("P7: KIND -1", x.knit(9, -1, 0), -7);
        Due.due("P7: MORE 10", x.knit(9, 0, 10), -7);
        Due.due("P7: MORE -1", x.knit(9, 0, -1), -7);
        Due.due("P7: nothing changed", 10 * x.told(9, 0) + x.told(9, 1), 38);
    }

    private static void rows() {
        StitchLetFall x = new StitchLetFall();
        x.knit(13, 2, 5);
        x.knit(14, 4, 5);
        Due.due("P8: one was so", x.row(2, 2, 3), 5);
        Due.due("P8: all were so", x.row(2, 2, 4), 0);
        for (int c = 0; c < 48; c++) {
            boolean isIn = c / 6 == 2;
            Due.due("P8: KIND of " + c, x.told(c, 0), isIn ? 2 : 0);
            Due.due("P8: MORE of " + c, x.told(c, 1), isIn ? 4 : 0);
        }
        Due.due("P8: ROW 7", x.row(7, 5, 9), 6);
        Due.due("P8: it is so", x.told(47, 0), 5);
        Due.due("P8: ROW 8", x.row(8, 6, 0), -5);
        Due.due("P8: ROW -1", x.row(-1, 0, 0), -5);
        Due.due("P8: KIND 6", x.row(0, 6, 0), -7);
        Due.due("P8: KIND -1", x.row(0, -1, 0), -7);
        Due.due("P8: MORE 10", x.row(0, 0, 10), -7);
        Due.due("P8: MORE -1", x.row(0, 0, -1), -7);
    }

    private static void telling() {
        StitchLetFall x = new StitchLetFall();
        int[] own = {1, 1, 0, 1, 0, 1};
        int[] next = {0, 0, 1, 1, 0, 0};
        int[] face = {0, 1, 0, 0, 0, 0};
        int[] neighbour = {1, 0, 3, 2, 5, 4};
        for (int r = 0; r < 8; r++) {
            for (int kind = 0; kind < 6; kind++) {
                x.row(r, kind, kind + 2);
                for (int p = 0; p < 6; p++) {
                    int c = 6 * r + p;
                    Due.due("P9: KIND of " + c, x.told(c, 0), kind);
                    Due.due("P9: MORE of " + c, x.told(c, 1), kind + 2);
                    Due.due("P9: PLACES of " + c + ", KIND " + kind, x.told(c, 2), own[kind] << p | next[kind] << neighbour[p]);
                    Due.due("P9: FACE of " + c, x.told(c, 3), face[kind]);
                }
            }
        }
        Due.due("P9: LOOP 48", x.told(48, 6), -5);
        Due.due("P9: LOOP -1", x.told(-1, 0), -5);
        Due.due("P9: what 6", x.told(0, 6), -7);
        Due.due("P9: what -1", x.told(0, -1), -7);
    }

    private static void pinning() {
        StitchLetFall x = new StitchLetFall();
        Due.due("P10: on", x.pin(47, 1), 0);
        Due.due("P10: on again", x.pin(47, 1), 1);
        Due.due("P10: told", x.told(47, 4), 1);
        Due.due("P10: others aren't", x.told(46, 4), 0);
        Due.due("P10: counted", x.count(0), 1);
        Due.due("P10: off", x.pin(47, 0), 1);
        Due.due("P10: off again", x.pin(47, 0), 0);
        Due.due("P10: none", x.count(0), 0);
        Due.due("P10: LOOP 48", x.pin(48, 2), -5);
        Due.due("P10: LOOP -1", x.pin(-1, 0), -5);
        Due.due("P10: is 2", x.pin(0, 2), -7);
        Due.due("P10: is -1", x.pin(0, -1), -7);
        Due.due("P10: nothing changed", x.count(0), 0);
    }

    private static void hanging() {
        StitchLetFall x = new StitchLetFall();
        x.knit(36, 3, 0);
        x.knit(43, 2, 0);
        x.knit(42, 4, 0);
        // 36 goes through 30 and 31, 37 through 31, 43 through 36, 42 through none.
        Due.due("P11: through 36", x.hangs(36, 0), Tell.bits(43));
        Due.due("P11: through 37", x.hangs(37, 0), 0);
        Due.due("P11: through 31", x.hangs(31, 0), Tell.bits(36, 37));
        Due.due("P11: through 30", x.hangs(30, 0), Tell.bits(36));
        Due.due("P11: through 42", x.hangs(42, 0), 0);
        Due.due("P11: on 31", x.hangs(31, 1), Tell.bits(36, 37, 43));
        Due.due("P11: on 25", x.hangs(25, 1), Tell.bits(31, 36, 37, 43));
        Due.due("P11: on 0", x.hangs(0, 1), Tell.bits(6, 12, 18, 24, 30, 36, 43));
        Due.due("P11: on which 43", x.hangs(43, 2), Tell.bits(36, 30, 31, 24, 25, 18, 19, 12, 13, 6, 7, 0, 1));
        Due.due("P11: on which 42", x.hangs(42, 2), 0);
        Due.due("P11: on which 0", x.hangs(0, 2), 0);
        x.knit(0, 3, 0);
        Due.due("P11: THROUGH means nothing in ROW 0", x.hangs(0, 2), 0);
        Due.due("P11: LOOP 48", x.hangs(48, 0), StitchLetFall.NO);
        Due.due("P11: LOOP -1", x.hangs(-1, 0), StitchLetFall.NO);
        Due.due("P11: what 3", x.hangs(0, 3), StitchLetFall.NO);
        Due.due("P11: what -1", x.hangs(0, -1), StitchLetFall.NO);
        Due.due("P13: back(25)", x.back(25), 5);
        Due.due("P13: back(0)", x.back(0), 8);
        Due.due("P13: back(42)", x.back(42), 1);
        Due.due("P13: LOOP 48", x.back(48), -5);
        Due.due("P13: LOOP -1", x.back(-1), -5);
    }

    private static void loose() {
        StitchLetFall x = new StitchLetFall();
        Due.due("P12: none at first", x.loose(), 0);
        Due.due("P25: none at first", x.wrong(), 0);
        x.row(7, 4, 0);
        Due.due("P12: under THROWN ones", x.loose(), Tell.bits(36, 37, 38, 39, 40, 41));
        Due.due("P25: one ROW", x.wrong(), 1 << 6);
        x.pin(37, 1);
        x.knit(39, 5, 0);
        x.knit(45, 2, 0);
        Due.due("P12: not PINNED, BOUND, held ones", x.loose(), Tell.bits(36, 40, 41));
        x.row(1, 2, 0);
        x.knit(6, 0, 0);
        Due.due("P12: 1 is held by 6 alone no more", x.loose(), Tell.bits(1, 36, 40, 41));
        Due.due("P25: two ROWS", x.wrong(), 1 << 6 | 1);
        x.row(7, 0, 0);
        Due.due("P25: ROW 0", x.wrong(), 1);
        StitchLetFall y = new StitchLetFall();
        y.knit(6, 4, 0);
        Due.due("P12: LOOP 0", y.loose(), 1);
        Due.due("P25: by LOOP 0", y.wrong(), 1);
        y.knit(6, 0, 0);
        y.knit(47, 4, 0);
        Due.due("P12: LOOP 41", y.loose(), Tell.bits(41));
        Due.due("P25: by LOOP 41", y.wrong(), 1 << 6);
    }

    private static void counting() {
        StitchLetFall x = new StitchLetFall();
        Due.due("P23: all are held", x.counts(3, 0), 6);
        Due.due("P23: none of ROW 7", x.counts(7, 0), 0);
        Due.due("P23: through all", x.counts(3, 1), 6);
        Due.due("P23: ROW 0 through none", x.counts(0, 1), 0);
        Due.due("P23: each through one", x.counts(3, 2), 0);
        x.knit(18, 4, 0);
        x.knit(20, 3, 0);
        x.knit(22, 2, 0);
        // ROW 3: through none; 1; 2 and 3; 3; 5; 5.
        Due.due("P23: places below ROW 3", x.counts(3, 1), 4);
        Due.due("P23: of ROW 2 held", x.counts(2, 0), 4);
        Due.due("P23: uneven ones", x.counts(3, 2), 2);
        x.knit(0, 3, 0);
        x.knit(1, 4, 0);
        x.knit(2, 2, 0);
        Due.due("P23: uneven ones of ROW 0, by their KIND", x.counts(0, 2), 2);
        Due.due("P23: still none below ROW 0", x.counts(0, 1), 0);
        Due.due("P23: ROW 8", x.counts(8, 3), -5);
        Due.due("P23: ROW -1", x.counts(-1, 0), -5);
        Due.due("P23: what 3", x.counts(0, 3), -7);
        Due.due("P23: what -1", x.counts(0, -1), -7);
    }

    private static void slipping() {
        StitchLetFall x = new StitchLetFall();
        Due.due("P24: SHEET 4", x.slip(4), -2);
        Due.due("P24: SHEET -1", x.slip(-1), -2);
        Due.due("P24: missing", x.slip(0), -11);
        x.sheet(0, 0, 7);
        Due.due("P24: 7 numbers", x.slip(0), -2);
        x.sheet(0, 0, 9);
        Due.due("P24: 9 numbers", x.slip(0), -2);
        Tell.ints(x, 1, 0, 6, 6, 6, 6, 6, 6, 6);
        Due.due("P24: as it is", x.slip(1), -1);
        x.cell(1, 0, 5);
        Due.due("P24: from ROW 1 on", x.slip(1), -1);
        x.cell(1, 7, 5);
        Due.due("P24: ROW 7", x.slip(1), 7);
        x.knit(19, 4, 0);
        Due.due("P24: ROW 3", x.slip(1), 3);
        x.cell(1, 1, 7);
        Due.due("P24: ROW 1", x.slip(1), 1);
    }
}
