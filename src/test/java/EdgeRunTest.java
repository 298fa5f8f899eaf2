/** The bounds that terms 2 name of A RUN, HANGING, LOOSE, LOTS, HANDS, AN IMAGE. */
public final class EdgeRunTest {
    private static final int PURL = 1, CROSSED = 2, JOINED = 3, THROWN = 4, BOUND = 5;
    private static final String NO_RUB = "rub 0;minutes 1;seen 1;";

    public static void main(String[] args) {
        pulled();
        rowByRow();
        keepers();
        dropped();
        comes();
        rubs();
        less();
        stops();
        one();
        minutesAndSeen();
        hanging();
        loose();
        lots();
        hands();
        images();
        Edge.end();
    }

    private static void pulled() {
        Edge.says("Terms 2", "A RUN from some LOOPS that are dropped, pulled by PULL (0 .. 99):");
        StitchLetFall x = new StitchLetFall();
        Edge.due(1, x, "run", 42, 0, 0);
        Edge.due(0, x, "left", 42, 0, 42);
        Edge.due(8, x, "run", 42, 99, 0);
        Edge.due(99, x, "left", 42, 99, 42);
        Edge.refused(-7, x, "run", Edge.of(42, -1, 0), Edge.of(42, 100, 0), Edge.of(42, Edge.MIN, 0), Edge.of(42, Edge.MAX, 0));
    }

    private static void rowByRow() {
        Edge.says("Terms 2", "ROW by ROW from 7 down.");
        StitchLetFall x = Tell.under(NO_RUB);
        for (int r = 0; r < 8; r++) {
            // From ROW 0 itself alone; from 7 all of the PLACE; never one of a ROW above.
            Edge.due(r + 1, x, "run", 6 * r + 3, 99, 0);
            Edge.due(0, x, "run", 6 * r + 3, 99, 1);
            Edge.due(r < 7 ? -1 : 99, x, "left", 6 * r + 3, 99, 45);
        }
    }

    private static void keepers() {
        Edge.says("Terms 2", "One that KEEPS never goes.");
        StitchLetFall x = Tell.under(NO_RUB);
        for (int c = 0; c < 48; c++) {
            x.pin(c, 1);
            Edge.due(0, x, "goes", c, 99, 0);
            Edge.due(-1, x, "reach", 42 + c % 6, c);
            x.pin(c, 0);
            Edge.due(99, x, "left", 42 + c % 6, 99, c);
        }
        StitchLetFall y = Tell.under(NO_RUB);
        y.row(3, BOUND, 0);
        y.row(5, BOUND, 0);
        Edge.due(6, y, "column", 1, 99, 0);
        Edge.due(0, y, "run", 19, 99, 0);
        Edge.due(2, y, "run", 43, 99, 0);
    }

    private static void dropped() {
        Edge.says("Terms 2", "Else one that is dropped goes, with PULL left.");
        StitchLetFall x = Tell.under("rub 99;minutes 1;seen 1;");
        for (int c : new int[] {0, 5, 21, 42, 47}) {
            // Also by no PULL at all, and though it is held by one that stays.
            Edge.due(1L << c, x, "goes", c, 0, 0);
            Edge.due(0, x, "left", c, 0, c);
            Edge.due(99, x, "left", c, 99, c);
        }
        // Of two that are dropped, the lower one has PULL left, not what the upper one would leave it.
        StitchLetFall y = Tell.under("rub 40;minutes 1;seen 1;");
        y.knit(36, JOINED, 0);
        y.knit(37, THROWN, 0);
        Edge.due(8, y, "column", 0, 0, 0);
        Edge.due(0, y, "column", 0, 40, 1);
        Edge.due(1, y, "column", 0, 41, 1);
    }

    private static void comes() {
        Edge.says("Terms 2", "Else, if any of the ROW above goes THROUGH it, and all that do have gone: the most left of these is what COMES;");
        StitchLetFall x = Tell.under(NO_RUB);
        x.knit(43, THROWN, 0);
        x.knit(45, CROSSED, 0);
        // None goes THROUGH 37; 38 is held by 44 and 45; 39 by none.
        Edge.due(1L << 43, x, "goes", 43, 99, 0);
        Edge.due(-1, x, "reach", 43, 37);
        Edge.due(-1, x, "reach", 44, 38);
        Edge.due(-1, x, "reach", 45, 38);
        Edge.due(-1, x, "reach", 45, 39);
        StitchLetFall y = new StitchLetFall();
        y.knit(42, JOINED, 0);
        y.knit(43, THROWN, 0);
        y.knit(36, JOINED, 0);
        y.knit(37, JOINED, 9);
        // 36 has 79 left, 37 has 61; both go THROUGH 30 and 31.
        Edge.due(79, y, "left", 42, 99, 36);
        Edge.due(61, y, "left", 42, 99, 37);
        Edge.due(69, y, "left", 42, 99, 30);
        Edge.due(69, y, "left", 42, 99, 31);
        y.knit(36, JOINED, 9);
        y.knit(37, JOINED, 0);
        Edge.due(69, y, "left", 42, 99, 30);
        Edge.due(69, y, "left", 42, 99, 31);
        // By 38 just one of them goes: neither 30 nor 31.
        Edge.due(1L << 42 | 1L << 37, y, "goes", 42, 38, 0);
        Edge.due(1L << 42 | 3L << 36 | 3L << 30, y, "goes", 42, 39, 0);
        Edge.due(-1, y, "left", 42, 38, 30);
    }

    private static void rubs() {
        Edge.says("Terms 2", "it RUBS (rub, pull: what COMES; 0 .. 999, else the bound);");
        StitchLetFall x = Tell.under("rub (pull=50)*7+(pull=43)*8;minutes 1;seen 1;");
        Edge.due(50, x, "left", 42, 50, 42);
        Edge.due(43, x, "left", 42, 50, 36);
        Edge.due(35, x, "left", 42, 50, 30);
        Edge.due(35, x, "left", 42, 50, 0);
        // The least it RUBS is 0, the most it can is 198.
        StitchLetFall y = Tell.under("rub 0-9999;minutes 1;seen 1;");
        y.knit(36, JOINED, 9);
        Edge.due(99, y, "left", 42, 99, 36);
        y.knit(36, PURL, 0);
        Edge.due(99, y, "left", 42, 99, 36);
        y.knit(36, PURL, 9);
        Edge.due(90, y, "left", 42, 99, 36);
        StitchLetFall z = Tell.under("rub 9999;minutes 1;seen 1;");
        for (int kind = 0; kind <= 5; kind++) {
            z.knit(36, kind, 9);
            Edge.due(1L << 42, z, "goes", 42, 99, 0);
        }
    }

    private static void less() {
        Edge.says("Terms 2", "if what COMES is more than that, it goes, with that much less left.");
        for (int rub : new int[] {0, 1, 50, 98}) {
            StitchLetFall x = Tell.under("rub " + rub + ";minutes 1;seen 1;");
            Edge.due(-1, x, "left", 42, rub, 36);
            Edge.due(1, x, "left", 42, rub + 1, 36);
            Edge.due(99 - rub, x, "left", 42, 99, 36);
        }
        StitchLetFall y = Tell.under("rub 99;minutes 1;seen 1;");
        Edge.due(1, y, "run", 42, 99, 0);
        StitchLetFall z = Tell.under("rub pull-1;minutes 1;seen 1;");
        Edge.due(1, z, "run", 42, 0, 0);
        Edge.due(8, z, "run", 42, 1, 0);
        Edge.due(1, z, "left", 42, 99, 0);
    }

    private static void stops() {
        Edge.says("Terms 2", "IT STOPS at each LOOP that has not gone, though all that go THROUGH it have, and any does.");
        StitchLetFall x = new StitchLetFall();
        Edge.due(1L << 36, x, "goes", 42, 10, 1);
        Edge.due(1L << 30, x, "goes", 42, 11, 1);
        Edge.due(0, x, "goes", 42, 71, 1);
        Edge.due(0, x, "goes", 0, 99, 1);
        // At two of them; at none that another one holds; at none that none held.
        x.knit(42, JOINED, 0);
        Edge.due(1L << 36, x, "goes", 42, 0, 1);
        Edge.due(0, x, "goes", 43, 0, 1);
        x.knit(43, THROWN, 0);
        Edge.due(3L << 36, x, "goes", 42, 0, 1);
        Edge.due(0, x, "goes", 43, 0, 1);
        x.knit(42, 0, 0);
        Edge.due(1L << 36, x, "goes", 42, 0, 1);
        // At one that KEEPS; not at one that is dropped and KEEPS, nor at a dropped one that goes.
        x.pin(36, 1);
        Edge.due(1L << 36, x, "goes", 42, 99, 1);
        Edge.due(0, x, "goes", 36, 99, 1);
        x.pin(36, 0);
        x.knit(36, BOUND, 0);
        Edge.due(1L << 36, x, "goes", 42, 99, 1);
        StitchLetFall y = new StitchLetFall();
        y.pin(0, 1);
        Edge.due(1, y, "goes", 42, 99, 1);
        y.pin(41, 1);
        Edge.due(1L << 41, y, "goes", 47, 99, 1);
    }

    private static void one() {
        Edge.says("Terms 2", "Where no others are told, one LOOP is dropped.");
        StitchLetFall x = Tell.under("rub 99;minutes 1;seen 1;");
        for (int c = 0; c < 48; c++) {
            Edge.due(1L << c, x, "goes", c, 99, 0);
        }
    }

    private static void minutesAndSeen() {
        Edge.says("Terms 2", "Of one that went minutes, seen: pull: what is left of it.");
        StitchLetFall x = Tell.under("rub 30;minutes pull;seen 99-pull;");
        // 99, 69, 39, 9 are left.
        Edge.due(99 + 69 + 39 + 9, x, "run", 42, 99, 2);
        Edge.due(30 + 60 + 90, x, "run", 42, 99, 3);
        Edge.due(0, x, "run", 42, 0, 2);
        Edge.due(99, x, "run", 42, 0, 3);
        StitchLetFall y = Tell.under("rub 30;minutes pull=69;seen pull=0;");
        Edge.due(1, y, "run", 42, 99, 2);
        Edge.due(0, y, "run", 42, 99, 3);
        Edge.due(1, y, "run", 42, 0, 3);
    }

    private static void hanging() {
        Edge.says("Terms 2", "HANGING on a LOOP: those of the ROW above that go THROUGH it, and all that HANG on these.");
        StitchLetFall x = new StitchLetFall();
        for (int r = 0; r < 8; r++) {
            Edge.due(8 - r, x, "back", 6 * r);
            Edge.due(8 - r, x, "back", 6 * r + 5);
        }
        x.row(4, JOINED, 0);
        // Of ROWS 1 to 3 one each, of ROWS 4 to 7 two each.
        Edge.due(1 + 3 + 8, x, "back", 0);
        Edge.due(1 + 8, x, "back", 18);
        Edge.due(1 + 3, x, "back", 24);
        x.knit(30, THROWN, 0);
        x.knit(31, THROWN, 0);
        Edge.due(1 + 3 + 2, x, "back", 0);
        Edge.due(0, x, "hangs", 24, 1);
        Edge.due(1L << 36 | 1L << 42, x, "hangs", 30, 1);
        Edge.due(0, x, "hangs", 30, 2);
        // A PINNED one hangs as well, and one that is BOUND.
        x.pin(36, 1);
        x.knit(42, BOUND, 0);
        Edge.due(1L << 36 | 1L << 42, x, "hangs", 30, 1);
    }

    private static void loose() {
        Edge.says("Terms 2", "LOOSE: LOOPS of ROWS 0 .. 6 that none goes THROUGH, and that do not KEEP.");
        StitchLetFall x = new StitchLetFall();
        Edge.due(0, x, "loose");
        for (int r = 1; r < 8; r++) {
            x.row(r, THROWN, 0);
            Edge.due((1L << 6 * r) - 1, x, "loose");
        }
        // ROW 7 never is, though none goes THROUGH its LOOPS.
        Edge.due((1L << 42) - 1, x, "loose");
        x.pin(0, 1);
        x.pin(41, 1);
        x.knit(1, BOUND, 0);
        x.knit(40, BOUND, 0);
        x.knit(8, PURL, 0);
        x.knit(45, CROSSED, 0);
        Edge.due((1L << 42) - 1 & ~(1L | 2L | 4L | 1L << 34 | 1L << 38 | 1L << 40 | 1L << 41), x, "loose");
    }

    /** How many of the first lots by a SEED, modulo 100, are below h. */
    private static int below(int seed, int lots, int h) {
        java.math.BigInteger lot = java.math.BigInteger.valueOf(seed + 1);
        int n = 0;
        for (int i = 0; i < lots; i++) {
            lot = lot.multiply(java.math.BigInteger.valueOf(48271)).mod(java.math.BigInteger.valueOf(2147483647));
            n += lot.mod(java.math.BigInteger.valueOf(100)).intValue() < h ? 1 : 0;
        }
        return n;
    }

    private static void lots() {
        Edge.says("Terms 2", "LOTS by a SEED (0 .. 99999): the first is (SEED and 1) times 48271 modulo 2147483647, each further one the last times 48271 modulo 2147483647.");
        // 44488 times 48271 is below 2147483647, 44489 times 48271 is above it, 44872 more.
        Edge.due(1, new StitchLetFall(), "slips", 44487, 42, 0, 49);
        Edge.due(0, new StitchLetFall(), "slips", 44487, 42, 0, 48);
        Edge.due(1, new StitchLetFall(), "slips", 44488, 42, 0, 73);
        Edge.due(0, new StitchLetFall(), "slips", 44488, 42, 0, 72);
        for (int seed : new int[] {0, 1, 44487, 44488, 99998, 99999}) {
            StitchLetFall x = new StitchLetFall();
            for (int h = 0; h <= 100; h++) {
                Edge.due(below(seed, 8, h), x, "slips", seed, 42, 99, h);
                Edge.due(below(seed, 1, h), x, "slips", seed, 42, 0, h);
            }
        }
        Edge.refused(-7, new StitchLetFall(), "slips", Edge.of(-1, 0, 0, 0), Edge.of(100000, 0, 0, 0), Edge.of(Edge.MIN, 0, 0, 0), Edge.of(Edge.MAX, 0, 0, 0));
    }

    private static void hands() {
        Edge.says("Terms 2", "HANDS: of LOOPS that went, by numbers, one LOT each: it is MISSED, if LOT modulo 100 is below h (0 .. 100).");
        StitchLetFall x = new StitchLetFall();
        // By SEED 0 the first LOTS are 71, 94, 86, 37 of a hundred; as many as go are drawn, no more.
        int[] byFour = {0, 37, 38, 71, 72, 86, 87, 94, 95, 100};
        int[] missed = {0, 0, 1, 1, 2, 2, 3, 3, 4, 4};
        for (int i = 0; i < byFour.length; i++) {
            Edge.due(missed[i], x, "slips", 0, 42, 31, byFour[i]);
        }
        Edge.due(0, x, "slips", 0, 42, 30, 71);
        Edge.due(3, x, "slips", 0, 42, 30, 100);
        Edge.due(0, x, "slips", 0, 0, 0, 71);
        Edge.due(1, x, "slips", 0, 0, 0, 72);
        x.pin(42, 1);
        Edge.due(0, x, "slips", 0, 42, 99, 100);
        Edge.refused(-7, x, "slips", Edge.of(0, 0, 0, -1), Edge.of(0, 0, 0, 101), Edge.of(0, 0, 0, Edge.MIN), Edge.of(0, 0, 0, Edge.MAX));
    }

    private static void images() {
        Edge.says("Terms 2", "AN IMAGE keeps KINDS, MORE, PINNED, MENDED, THE LAW.");
        StitchLetFall x = Tell.under(NO_RUB);
        for (int c : new int[] {0, 47}) {
            x.knit(c, JOINED, 9);
            x.pin(c, 1);
        }
        x.mend(5, 0);
        x.mend(46, 0);
        x.image();
        x.force(0);
        x.block();
        for (int c = 0; c < 48; c++) {
            x.knit(c, PURL, 1);
            x.pin(c, 1 - c % 2);
        }
        x.mend(1, 0);
        Edge.due(2, x, "restore");
        for (int c = 0; c < 48; c++) {
            boolean isEnd = c == 0 || c == 47;
            Edge.due(isEnd ? JOINED : 0, x, "told", c, 0);
            Edge.due(isEnd ? 9 : 0, x, "told", c, 1);
            Edge.due(isEnd ? 1 : 0, x, "told", c, 4);
            Edge.due(c == 5 || c == 46 ? 1 : 0, x, "told", c, 5);
        }
        Edge.due(1, x, "count", 3);
    }
}
