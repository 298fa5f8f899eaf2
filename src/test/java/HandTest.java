/** Promises 37 to 40: hands that slip by lot, images. */
public final class HandTest {
    public static void main(String[] args) {
        slipping();
        odds();
        images();
        Due.end();
    }

    private static void slipping() {
        StitchLetFall x = new StitchLetFall();
        // By SEED 0 the LOTS are 48271, 182605794, 1291394886, 1914720637: 71, 94, 86, 37 of a hundred.
        int[] due = {0, 0, 1, 1, 2, 2, 3, 3, 4};
        int[] h = {0, 37, 38, 71, 72, 86, 87, 94, 95};
        for (int i = 0; i < h.length; i++) {
            Due.due("P37: below " + h[i], x.slips(0, 42, 31, h[i]), due[i]);
        }
        Due.due("P37: the first LOT is for the lowest number", x.slips(0, 42, 0, 72), 1);
        Due.due("P37: and no second one", x.slips(0, 42, 0, 71), 0);
        Due.due("P37: of two", x.slips(0, 42, 11, 94), 1);
        Due.due("P37: of two by 95", x.slips(0, 42, 11, 95), 2);
        Due.due("P37: by 100 all", x.slips(99999, 42, 99, 100), 8);
        Due.due("P37: by 0 none", x.slips(99999, 42, 99, 0), 0);
        // 2 times 48271 is 96542.
        Due.due("P37: SEED 1", 10 * x.slips(1, 42, 0, 42) + x.slips(1, 42, 0, 43), 1);
        // 100000 times 48271 is 2 times 2147483647, and 532132706.
        Due.due("P37: SEED 99999", 10 * x.slips(99999, 42, 0, 6) + x.slips(99999, 42, 0, 7), 1);
        Due.due("P37: LOOP 48", x.slips(-1, 48, 100, 101), -5);
        Due.due("P37: LOOP -1", x.slips(0, -1, 0, 0), -5);
        Due.due("P37: SEED -1", x.slips(-1, 0, 0, 0), -7);
        Due.due("P37: SEED 100000", x.slips(100000, 0, 0, 0), -7);
        Due.due("P37: PULL 100", x.slips(0, 0, 100, 0), -7);
        Due.due("P37: PULL -1", x.slips(0, 0, -1, 0), -7);
        Due.due("P37: h 101", x.slips(0, 0, 0, 101), -7);
        Due.due("P37: h -1", x.slips(0, 0, 0, -1), -7);
        x.pin(42, 1);
        Due.due("P37: none went", x.slips(0, 42, 99, 100), 0);
    }

    private static void odds(StitchLetFall x, int[] a, long above, long below) {
        Due.due("P38: above", x.odds(a[0], a[1], a[2], a[3], a[4], 0), above);
        Due.due("P38: below", x.odds(a[0], a[1], a[2], a[3], a[4], 1), below);
    }

    private static void odds() {
        StitchLetFall x = new StitchLetFall();
        // The first LOTS by SEEDS 0 .. 5: 71, 42, 13, 84, 55, 26 of a hundred.
        odds(x, new int[] {0, 6, 42, 0, 42}, 2, 3);
        odds(x, new int[] {0, 6, 42, 0, 43}, 1, 2);
        odds(x, new int[] {0, 5, 42, 0, 43}, 3, 5);
        odds(x, new int[] {0, 6, 42, 0, 84}, 1, 6);
        odds(x, new int[] {0, 6, 42, 0, 85}, 0, 1);
        odds(x, new int[] {0, 1, 42, 0, 71}, 1, 1);
        odds(x, new int[] {0, 50, 42, 99, 100}, 0, 1);
        odds(x, new int[] {0, 50, 42, 99, 0}, 1, 1);
        int clean = 0;
        for (int seed = 99950; seed < 100000; seed++) {
            clean += x.slips(seed, 42, 99, 20) == 0 ? 1 : 0;
        }
        int shared = java.math.BigInteger.valueOf(clean).gcd(java.math.BigInteger.valueOf(50)).intValue();
        odds(x, new int[] {99950, 50, 42, 99, 20}, clean / shared, 50 / shared);
        // 100001 times 48271 is 4827148271, less 2 times 2147483647: 532180977.
        odds(x, new int[] {99999, 2, 42, 0, 7}, 1, 2);
        odds(x, new int[] {99999, 2, 42, 0, 77}, 1, 2);
        odds(x, new int[] {99999, 2, 42, 0, 78}, 0, 1);
        int[][] bad = {{-1, 1, 0, 0, 0, 0}, {100000, 1, 0, 0, 0, 0}, {0, 0, 0, 0, 0, 0}, {0, 51, 0, 0, 0, 0},
            {0, 1, -1, 0, 0, 0}, {0, 1, 48, 0, 0, 0}, {0, 1, 0, -1, 0, 0}, {0, 1, 0, 100, 0, 0}, {0, 1, 0, 0, -1, 0},
            {0, 1, 0, 0, 101, 0}, {0, 1, 0, 0, 0, -1}, {0, 1, 0, 0, 0, 2}};
        for (int[] a : bad) {
            Due.due("P38: " + java.util.Arrays.toString(a), x.odds(a[0], a[1], a[2], a[3], a[4], a[5]), StitchLetFall.NO);
        }
    }

    private static void images() {
        StitchLetFall x = new StitchLetFall();
        Tell.text(x, "rub 1;minutes 1;seen 1;");
        Due.due("P40: there is none", x.restore(), -3);
        x.knit(9, 3, 4);
        x.pin(5, 1);
        x.pin(6, 1);
        x.mend(47, 11);
        x.force(1);
        Due.due("P39: how many are PINNED", x.image(), 2);
        x.row(1, 1, 1);
        x.pin(5, 0);
        x.pin(7, 1);
        x.pin(8, 1);
        x.block();
        x.force(0);
        Tell.text(x, "rub 2;minutes 2;seen 2;");
        x.feed(3, 1, 2, 3, 0, 0);
        x.sheet(0, 1, 5);
        for (int times = 0; times < 2; times++) {
            Due.due("P40: how many are PINNED", x.restore(), 2);
            Due.due("P40: KIND and MORE", 10 * x.told(9, 0) + x.told(9, 1), 34);
            Due.due("P40: KIND and MORE of another", 10 * x.told(8, 0) + x.told(8, 1), 0);
            Due.due("P40: PINNED", x.told(5, 4) + x.told(6, 4), 2);
            Due.due("P40: no others", x.count(0), 2);
            Due.due("P40: MENDED", x.told(47, 5) + x.told(41, 5), 2);
            Due.due("P40: no others", x.count(1), 2);
            Due.due("P40: THE LAW", x.count(3), 1);
            Due.due("P40: TEXTS stay", x.count(2), 3);
            Due.due("P40: THE TAPE stays", x.count(4), 3);
            Due.due("P40: SHEETS stay", x.cell(0, 4, 0), 1);
            x.knit(9, 0, 0);
            x.pin(9, 1);
            x.mend(46, 99);
            x.force(2);
        }
        Due.due("P39: a second image", x.image(), 3);
        x.pin(0, 1);
        x.knit(9, 5, 5);
        Due.due("P40: as the second", x.restore(), 3);
        Due.due("P40: as the second, KIND", x.told(9, 0), 0);
    }
}
