/** Promises 26 to 31: pins, mending, slack. */
public final class MendTest {
    public static void main(String[] args) {
        pins();
        pinsByTwo();
        mending();
        truly();
        shown();
        slack();
        Due.end();
    }

    private static void pins(StitchLetFall x, int c, int pull, int n, int many, int lesser, int other) {
        Due.due("P26: how many for " + n, x.pinned(c, pull, n, 0), many);
        Due.due("P26: the lesser for " + n, x.pinned(c, pull, n, 1), lesser);
        Due.due("P26: the other for " + n, x.pinned(c, pull, n, 2), other);
    }

    private static void pins() {
        StitchLetFall x = new StitchLetFall();
        pins(x, 42, 99, 48, 0, -1, -1);
        pins(x, 42, 99, 8, 0, -1, -1);
        for (int n = 1; n < 8; n++) {
            pins(x, 42, 99, n, 1, 42 - 6 * (8 - (8 - n)), -1);
        }
        pins(x, 42, 99, 0, -1, -1, -1);
        Due.due("P26: none is truly PINNED", x.count(0), 0);
        x.pin(42, 1);
        pins(x, 42, 99, 0, 0, -1, -1);
        Due.due("P26: LOOP 48", x.pinned(48, 100, 0, 0), -5);
        Due.due("P26: LOOP -1", x.pinned(-1, 0, 49, 3), -5);
        Due.due("P26: PULL 100", x.pinned(0, 100, 0, 0), -7);
        Due.due("P26: PULL -1", x.pinned(0, -1, 0, 0), -7);
        Due.due("P26: n 49", x.pinned(0, 0, 49, 0), -7);
        Due.due("P26: n -1", x.pinned(0, 0, -1, 0), -7);
        Due.due("P26: what 3", x.pinned(0, 0, 0, 3), -7);
        Due.due("P26: what -1", x.pinned(0, 0, 0, -1), -7);
    }

    private static void pinsByTwo() {
        StitchLetFall x = Tell.under("rub 1;minutes 1;seen 1;");
        x.knit(44, 3, 0);
        x.knit(45, 4, 0);
        // From 44 both columns go, 15 in all.
        Due.due("P26: all that go", x.run(44, 99, 0), 15);
        pins(x, 44, 99, 14, 1, 2, -1);
        pins(x, 44, 99, 9, 1, 32, -1);
        pins(x, 44, 99, 8, 1, 38, -1);
        pins(x, 44, 99, 7, 2, 2, 39);
        pins(x, 44, 99, 2, 2, 32, 39);
        pins(x, 44, 99, 1, 2, 38, 39);
        pins(x, 44, 99, 0, -1, -1, -1);
        StitchLetFall y = Tell.under("rub 1;minutes 1;seen 1;");
        y.knit(12, 3, 0);
        y.knit(13, 4, 0);
        // 12, 6 and 7, 0 and 1.
        pins(y, 12, 99, 5, 0, -1, -1);
        pins(y, 12, 99, 4, 1, 0, -1);
        pins(y, 12, 99, 3, 1, 6, -1);
        pins(y, 12, 99, 2, 2, 0, 7);
        pins(y, 12, 99, 1, 2, 6, 7);
        pins(y, 12, 99, 0, -1, -1, -1);
        x.pin(32, 1);
        pins(x, 44, 99, 9, 0, -1, -1);
        pins(x, 44, 99, 2, 1, 39, -1);
    }

    private static void mending() {
        StitchLetFall x = Tell.under("rub 1;minutes 9;seen 1;");
        // 9 for each; 24 for each ROW; 50 and 1 for each: the ROWS are least never, here.
        Due.due("P27: one by the hook", x.mending(42, 0, 0), 0);
        Due.due("P27: its minutes", x.mending(42, 0, 1), 9);
        Due.due("P27: eight grafted", x.mending(42, 99, 0), 2);
        Due.due("P27: their minutes", x.mending(42, 99, 1), 58);
        Due.due("P27: six by the hook", x.mending(42, 6, 1), 54);
        Due.due("P27: seven grafted", x.mending(42, 7, 1), 57);
        StitchLetFall y = Tell.under("rub 1;minutes 25;seen 1;");
        Due.due("P27: one by rows", y.mending(42, 0, 0), 1);
        Due.due("P27: its minutes", y.mending(42, 0, 1), 24);
        Due.due("P27: two by rows", y.mending(42, 2, 1), 48);
        Due.due("P27: three grafted", y.mending(42, 3, 1), 53);
        Due.due("P27: one of ROW 5 by the hook", y.mending(30, 0, 1), 25);
        StitchLetFall z = Tell.under("rub 1;minutes 24;seen 1;");
        Due.due("P27: of like ones the first", z.mending(42, 2, 0), 0);
        Due.due("P27: either way", z.mending(42, 2, 1), 48);
        StitchLetFall w = Tell.under("rub 1;minutes 51;seen 1;");
        Due.due("P27: one of ROW 4, like by hook and graft", w.mending(24, 0, 0), 0);
        Due.due("P27: its minutes", w.mending(24, 0, 1), 51);
        w.row(7, 3, 0);
        w.pin(43, 1);
        w.pin(42, 1);
        Due.due("P27: none went", w.mending(42, 99, 0), -1);
        Due.due("P27: no minutes", w.mending(42, 99, 1), 0);
        StitchLetFall v = Tell.under("rub 1;minutes pull;seen 1;");
        Due.due("P27: by what is left", v.mending(42, 4, 1), 4 + 3 + 2 + 1);
        Due.due("P27: LOOP 48", v.mending(48, 100, 0), -5);
        Due.due("P27: LOOP -1", v.mending(-1, 0, 2), -5);
        Due.due("P27: PULL 100", v.mending(0, 100, 0), -7);
        Due.due("P27: PULL -1", v.mending(0, -1, 0), -7);
        Due.due("P27: what 2", v.mending(0, 0, 2), -7);
        Due.due("P27: what -1", v.mending(0, 0, -1), -7);
    }

    private static void truly() {
        StitchLetFall x = new StitchLetFall();
        Due.due("P28: two", x.mend(42, 20), 2);
        Due.due("P28: a third", x.mend(42, 30), 1);
        Due.due("P28: none new", x.mend(42, 5), 0);
        Due.due("P28: told", x.told(42, 5) + x.told(36, 5) + x.told(30, 5), 3);
        Due.due("P28: no others", x.count(1), 3);
        Due.due("P28: LOOP 48", x.mend(48, 100), -5);
        Due.due("P28: LOOP -1", x.mend(-1, 0), -5);
        Due.due("P28: PULL 100", x.mend(0, 100), -7);
        Due.due("P28: PULL -1", x.mend(0, -1), -7);
        Due.due("P28: nothing changed", x.count(1), 3);
        Due.due("P29: how many were", x.block(), 3);
        Due.due("P29: none is", x.count(1) + x.told(42, 5), 0);
        Due.due("P29: none were", x.block(), 0);
    }

    private static void shown() {
        StitchLetFall x = new StitchLetFall();
        for (int c = 42; c < 48; c++) {
            x.mend(c, 0);
        }
        Due.due("P30: all alike", x.seen(), 0);
        x.knit(43, 1, 0);
        // FACES 0 1 0 0 0 0.
        Due.due("P30: 42 has one beside it, 43 two", x.seen(), Tell.bits(42, 43));
        x.knit(46, 1, 0);
        // FACES 0 1 0 0 1 0.
        Due.due("P30: both ends", x.seen(), Tell.bits(42, 43, 46, 47));
        x.knit(45, 1, 0);
        // FACES 0 1 0 1 1 0.
        Due.due("P30: one alike beside it is enough", x.seen(), Tell.bits(42, 43, 44, 47));
        x.knit(41, 1, 0);
        x.knit(36, 1, 0);
        Due.due("P30: another ROW is not beside it", x.seen(), Tell.bits(42, 43, 44, 47));
        x.knit(43, 5, 0);
        Due.due("P30: a BOUND one has a LOOP's FACE", x.seen(), Tell.bits(47));
        x.block();
        Due.due("P30: none MENDED", x.seen(), 0);
        x.mend(41, 0);
        Due.due("P30: those beside it needn't be", x.seen(), Tell.bits(41));
        x.mend(0, 0);
        x.mend(2, 0);
        x.knit(0, 1, 0);
        Due.due("P30: LOOP 0", x.seen(), Tell.bits(0, 41));
        x.mend(1, 0);
        x.knit(1, 1, 0);
        Due.due("P30: 1 is like 0, though not like 2", x.seen(), Tell.bits(41));
    }

    private static void slack() {
        StitchLetFall x = new StitchLetFall();
        int[] more = {1, 2, 3, 4, 5, 6};
        for (int p = 0; p < 6; p++) {
            x.knit(12 + p, 0, more[p]);
        }
        // From PLACE 2: 2, 4, 1, 5, 6.
        int[] due = {0, 1, 1, 2, 2, 2, 2, 3, 4, 4, 4, 4, 4, 5, 5, 5, 5, 5, 5, -1};
        for (int n = 0; n < due.length; n++) {
            Due.due("P31: " + n + " to PLACE 2", x.slack(14, n), due[n]);
        }
        // From PLACE 0: 2, 3, 4, 5, 6; from PLACE 5: 5, 4, 3, 2, 1.
        Due.due("P31: 2 to PLACE 0", x.slack(12, 2), 1);
        Due.due("P31: 3 to PLACE 0", x.slack(12, 3), 2);
        Due.due("P31: 20 to PLACE 0", x.slack(12, 20), 5);
        Due.due("P31: 21 to PLACE 0", x.slack(12, 21), -1);
        Due.due("P31: 5 to PLACE 5", x.slack(17, 5), 1);
        Due.due("P31: 14 to PLACE 5", x.slack(17, 14), 4);
        Due.due("P31: 15 to PLACE 5", x.slack(17, 15), 5);
        Due.due("P31: 99", x.slack(17, 99), -1);
        Due.due("P31: another ROW gives none", x.slack(11, 1), -1);
        Due.due("P31: LOOP 48", x.slack(48, 100), -5);
        Due.due("P31: LOOP -1", x.slack(-1, 0), -5);
        Due.due("P31: n 100", x.slack(0, 100), -7);
        Due.due("P31: n -1", x.slack(0, -1), -7);
    }
}
