/** Promises 14 to 22: what runs if a LOOP is dropped. */
public final class RunTest {
    private static final int[] COLUMN = {42, 36, 30, 24, 18, 12, 6, 0};

    public static void main(String[] args) {
        falling();
        kinds();
        joining();
        keeping();
        pullOfTheLaw();
        goingAndStopping();
        leaving();
        most();
        columns();
        lines();
        reaching();
        two();
        twoOfOddLaws();
        twoByWhichFewerGo();
        all();
        Due.end();
    }

    private static void falling() {
        StitchLetFall x = new StitchLetFall();
        // Each LOOP rubs 10: what comes must be more.
        for (int pull = 0; pull < 100; pull++) {
            int n = pull == 0 ? 1 : Math.min(8, (pull - 1) / 10 + 1);
            Due.due("P14: how many by " + pull, x.run(42, pull, 0), n);
            Due.due("P14: the lowest by " + pull, x.run(42, pull, 1), 8 - n);
            Due.due("P14: minutes by " + pull, x.run(42, pull, 2), 2 * n);
            Due.due("P14: seen by " + pull, x.run(42, pull, 3), n);
        }
        Due.due("P14: from the middle", x.run(20, 99, 0), 4);
        Due.due("P14: from ROW 0", x.run(5, 99, 0), 1);
        x.row(6, 1, 2);
        Due.due("P14: minutes of a PURL with MORE", x.run(42, 99, 2), 18);
        Due.due("P14: seen of a PURL", x.run(42, 99, 3), 9);
        x.pin(42, 1);
        int[] none = {0, -1, 0, 0};
        for (int what = 0; what < 4; what++) {
            Due.due("P14: none goes, what " + what, x.run(42, 99, what), none[what]);
        }
        Due.due("P14: LOOP 48", x.run(48, 100, 0), -5);
        Due.due("P14: LOOP -1", x.run(-1, 0, 4), -5);
        Due.due("P14: PULL 100", x.run(0, 100, 0), -7);
        Due.due("P14: PULL -1", x.run(0, -1, 0), -7);
        Due.due("P14: what 4", x.run(0, 0, 4), -7);
        Due.due("P14: what -1", x.run(0, 0, -1), -7);
    }

    /** What each KIND below a dropped one rubs. */
    private static void kinds() {
        int[] rubs = {14, 15, 14, 28, 14, 0};
        for (int kind = 0; kind < 5; kind++) {
            StitchLetFall x = new StitchLetFall();
            x.knit(36, kind, 4);
            Due.due("P14: KIND " + kind + " holds by " + rubs[kind], x.run(42, rubs[kind], 0), 1);
            Due.due("P14: KIND " + kind + " goes by 1 more", x.left(42, rubs[kind] + 1, 36), 1);
        }
        StitchLetFall x = new StitchLetFall();
        x.knit(36, 5, 0);
        Due.due("P14: a BOUND one never goes", x.run(42, 99, 0), 1);
        x.knit(36, 0, 9);
        x.knit(42, 4, 0);
        Due.due("P14: through THROWN nothing runs", x.run(42, 99, 0), 1);
        x.knit(42, 2, 0);
        Due.due("P14: a CROSSED one alone on its neighbour's", x.run(42, 99, 0), 1);
        x.knit(43, 2, 0);
        Due.due("P14: two CROSSED ones", x.goes(42, 15, 0), Tell.bits(42, 37));
        Due.due("P14: the other one's neighbour holds by 19", x.goes(43, 19, 0), Tell.bits(43));
        Due.due("P14: and goes by 20", x.goes(43, 20, 0), Tell.bits(43, 36));
    }

    private static void joining() {
        StitchLetFall x = new StitchLetFall();
        x.knit(42, 3, 0);
        // 42 goes through 36 and 37, 43 through 37: that one stays by it.
        Due.due("P15: one held by another", x.goes(42, 15, 0), Tell.bits(42, 36));
        Due.due("P15: it does not stop there", x.goes(42, 10, 1), Tell.bits(36));
        Due.due("P15: nor if the other goes", x.goes(43, 99, 1), 0);
        x.knit(43, 4, 0);
        Due.due("P15: both go by one", x.goes(42, 15, 0), Tell.bits(42, 36, 37));
        Due.due("P15: or it stops at both", x.goes(42, 10, 1), Tell.bits(36, 37));
        x.knit(36, 3, 0);
        x.knit(37, 3, 0);
        // Each holds 30 and 31; what comes is what is left of the better one.
        x.knit(37, 3, 1);
        Due.due("P16: rubbed twice as much", x.left(42, 99, 36), 79);
        Due.due("P16: and with MORE", x.left(42, 99, 37), 77);
        Due.due("P16: the most left comes", x.left(42, 99, 30), 69);
        Due.due("P16: to both", x.left(42, 99, 31), 69);
        x.knit(36, 3, 2);
        Due.due("P16: from the other one, too", x.left(42, 99, 31), 67);
        x.pin(37, 1);
        Due.due("P15: neither goes past a PINNED one", x.goes(42, 99, 0), Tell.bits(42, 36));
        Due.due("P15: it stops at the PINNED one alone", x.goes(42, 99, 1), Tell.bits(37));
    }

    private static void keeping() {
        StitchLetFall x = new StitchLetFall();
        x.pin(24, 1);
        Due.due("P15: down to the PINNED one", x.goes(42, 99, 0), Tell.bits(42, 36, 30));
        Due.due("P15: it stops there", x.goes(42, 99, 1), Tell.bits(24));
        Due.due("P15: a PINNED one dropped", x.goes(24, 99, 0), 0);
        Due.due("P15: it stops nowhere", x.goes(24, 99, 1), 0);
        x.pin(24, 0);
        x.knit(24, 5, 0);
        Due.due("P15: down to the BOUND one", x.goes(42, 99, 0), Tell.bits(42, 36, 30));
        Due.due("P15: it stops there, too", x.goes(42, 99, 1), Tell.bits(24));
        Due.due("P15: a BOUND one dropped", x.goes(24, 99, 0), 0);
    }

    private static void pullOfTheLaw() {
        StitchLetFall x = Tell.under("rub 9+(pull<50)*90;minutes pull;seen row*10+place;");
        // 99, 90, 81, 72, 63, 54, 45: the next rubs 99.
        Due.due("P14: by what comes", x.run(44, 99, 0), 7);
        Due.due("P14: minutes by what is left", x.run(44, 99, 2), 99 + 90 + 81 + 72 + 63 + 54 + 45);
        Due.due("P14: seen by ROW and PLACE", x.run(44, 99, 3), 72 + 62 + 52 + 42 + 32 + 22 + 12);
        Due.due("P14: by 51", x.run(44, 51, 2), 51 + 42);
        StitchLetFall y = Tell.under("rub mended*50;minutes 1;seen mended;");
        Due.due("P14: none MENDED", y.run(42, 49, 0), 8);
        y.mend(30, 0);
        Due.due("P14: one MENDED", y.run(42, 49, 0), 2);
        Due.due("P14: seen if MENDED", y.run(42, 99, 3), 1);
        StitchLetFall z = Tell.under("rub 0;minutes 99;seen 99;");
        Due.due("P14: what comes must be more than none", z.run(42, 0, 0), 1);
        Due.due("P14: 1 is", z.run(42, 1, 0), 8);
        Due.due("P14: with as much left", z.left(42, 1, 0), 1);
        Due.due("P14: minutes together", z.run(42, 1, 2), 792);
    }

    private static void goingAndStopping() {
        StitchLetFall x = new StitchLetFall();
        Due.due("P15: all of a column", x.goes(42, 99, 0), Tell.bits(COLUMN));
        Due.due("P15: it stops nowhere", x.goes(42, 99, 1), 0);
        Due.due("P15: by 11", x.goes(42, 11, 0), Tell.bits(42, 36));
        Due.due("P15: it stops", x.goes(42, 11, 1), Tell.bits(30));
        Due.due("P15: LOOP 48", x.goes(48, 0, 0), StitchLetFall.NO);
        Due.due("P15: LOOP -1", x.goes(-1, 0, 0), StitchLetFall.NO);
        Due.due("P15: PULL 100", x.goes(0, 100, 0), StitchLetFall.NO);
        Due.due("P15: PULL -1", x.goes(0, -1, 0), StitchLetFall.NO);
        Due.due("P15: what 2", x.goes(0, 0, 2), StitchLetFall.NO);
        Due.due("P15: what -1", x.goes(0, 0, -1), StitchLetFall.NO);
    }

    private static void leaving() {
        StitchLetFall x = new StitchLetFall();
        for (int i = 0; i < 8; i++) {
            Due.due("P16: at " + COLUMN[i], x.left(42, 75, COLUMN[i]), 75 - 10 * i);
        }
        Due.due("P16: at one that doesn't go", x.left(42, 75, 43), -1);
        Due.due("P16: above", x.left(36, 75, 42), -1);
        Due.due("P16: none is left, yet it goes", x.left(42, 0, 42), 0);
        Due.due("P16: LOOP 48", x.left(48, 100, 0), -5);
        Due.due("P16: LOOP -1", x.left(-1, 0, 0), -5);
        Due.due("P16: other 48", x.left(0, 100, 48), -5);
        Due.due("P16: other -1", x.left(0, 0, -1), -5);
        Due.due("P16: PULL 100", x.left(0, 100, 0), -7);
        Due.due("P16: PULL -1", x.left(0, -1, 1), -7);
    }

    private static void most() {
        StitchLetFall x = new StitchLetFall();
        Due.due("P17: the first of like ones", x.most(99, 0), 42);
        Due.due("P17: how many", x.most(99, 1), 8);
        Due.due("P17: by 0 each as many", x.most(0, 0), 0);
        Due.due("P17: by 0 how many", x.most(0, 1), 1);
        x.pin(0, 1);
        x.knit(1, 5, 0);
        Due.due("P17: the third column", x.most(99, 0), 44);
        Due.due("P17: by 11", x.most(11, 0), 8);
        Due.due("P17: by 11 how many", x.most(11, 1), 2);
        for (int r = 0; r < 8; r++) {
            x.row(r, 5, 0);
        }
        Due.due("P17: none goes: the first", x.most(99, 0), 0);
        Due.due("P17: none goes: how many", x.most(99, 1), 0);
        Due.due("P17: PULL 100", x.most(100, 0), -2);
        Due.due("P17: PULL -1", x.most(-1, 0), -2);
        Due.due("P17: what 2", x.most(0, 2), -2);
        Due.due("P17: what -1", x.most(0, -1), -2);
    }

    private static void columns() {
        StitchLetFall x = new StitchLetFall();
        Due.due("P18: all of it by 0", x.column(2, 0, 0), 8);
        Due.due("P18: no others", x.column(2, 99, 1), 0);
        Due.due("P18: the first", x.column(0, 0, 0), 8);
        Due.due("P18: the last", x.column(5, 0, 0), 8);
        x.pin(14, 1);
        Due.due("P18: less a PINNED one", x.column(2, 0, 0), 7);
        x.knit(44, 3, 0);
        x.knit(45, 4, 0);
        // 39 hangs by 44 alone now, and what is below by it.
        Due.due("P18: by 40", x.column(2, 40, 0), 10);
        Due.due("P18: of them others", x.column(2, 40, 1), 3);
        Due.due("P18: the others' column", x.column(3, 40, 0), 8);
        Due.due("P18: of no others", x.column(3, 40, 1), 0);
        Due.due("P18: PLACE 6", x.column(6, 100, 0), -5);
        Due.due("P18: PLACE -1", x.column(-1, 0, 2), -5);
        Due.due("P18: PULL 100", x.column(5, 100, 0), -7);
        Due.due("P18: PULL -1", x.column(0, -1, 0), -7);
        Due.due("P18: what 2", x.column(0, 0, 2), -7);
        Due.due("P18: what -1", x.column(0, 0, -1), -7);
    }

    private static void lines() {
        StitchLetFall x = new StitchLetFall();
        int[] due = {0, 11, 21, 31, 41, 51, 61, 71, -1, -1};
        for (int n = 0; n < 10; n++) {
            Due.due("P19: more than " + n, x.line(42, n), due[n]);
        }
        Due.due("P19: more than 48", x.line(42, 48), -1);
        x.pin(42, 1);
        Due.due("P19: more than 0 of none", x.line(42, 0), -1);
        StitchLetFall y = Tell.under("rub 98;minutes 1;seen 1;");
        Due.due("P19: by 99", y.line(42, 1), 99);
        Due.due("P20: by 99", y.reach(42, 36), 99);
        Due.due("P19: LOOP 48", x.line(48, 49), -5);
        Due.due("P19: LOOP -1", x.line(-1, 0), -5);
        Due.due("P19: n 49", x.line(0, 49), -7);
        Due.due("P19: n -1", x.line(0, -1), -7);
    }

    private static void reaching() {
        StitchLetFall x = new StitchLetFall();
        for (int i = 0; i < 8; i++) {
            Due.due("P20: to " + COLUMN[i], x.reach(42, COLUMN[i]), i == 0 ? 0 : 10 * i + 1);
        }
        Due.due("P20: beside", x.reach(42, 43), -1);
        Due.due("P20: above", x.reach(36, 42), -1);
        x.knit(36, 0, 9);
        x.row(4, 3, 9);
        Due.due("P20: rubs 19, 10 and 38", x.reach(42, 24), 68);
        Due.due("P20: no further, 25 holds 18, too", x.reach(42, 18), -1);
        x.row(4, 0, 9);
        Due.due("P20: rubs 19, 10 and 19", x.reach(42, 24), 49);
        Due.due("P20: all the way it takes 19, 10, 19 and 40, 1 more", x.reach(42, 0), 89);
        x.pin(42, 1);
        Due.due("P20: PINNED", x.reach(42, 42), -1);
        Due.due("P20: LOOP 48", x.reach(48, 0), -5);
        Due.due("P20: LOOP -1", x.reach(-1, 0), -5);
        Due.due("P20: other 48", x.reach(0, 48), -5);
        Due.due("P20: other -1", x.reach(0, -1), -5);
    }

    private static void two() {
        StitchLetFall x = new StitchLetFall();
        Due.due("P21: by 0 the first two", x.two(0, 0), 1);
        Due.due("P21: by 0 how many", x.two(0, 1), 2);
        Due.due("P21: by 0 none more than the two alone", x.two(0, 2), 0);
        Due.due("P21: two columns", x.two(99, 0), 4243);
        Due.due("P21: how many", x.two(99, 1), 16);
        Due.due("P21: none more than from either", x.two(99, 2), 0);
        Due.due("P21: by 11 of ROW 1", x.two(11, 0), 607);
        x.pin(37, 1);
        // 42 with 43: 9; 42 with 44: 16.
        Due.due("P21: of other pairs of columns", x.two(99, 0), 4244);
        x.pin(37, 0);
        x.knit(42, 3, 0);
        x.knit(43, 3, 0);
        for (int p = 2; p < 6; p++) {
            x.pin(36 + p, 1);
        }
        Due.due("P21: joined ones go by both alone", x.two(99, 0), 4243);
        Due.due("P21: all of both", x.two(99, 1), 16);
        Due.due("P21: 14 more than from either", x.two(99, 2), 14);
        StitchLetFall y = new StitchLetFall();
        y.knit(46, 3, 0);
        y.knit(47, 3, 0);
        for (int p = 0; p < 4; p++) {
            y.pin(36 + p, 1);
        }
        Due.due("P21: joined ones of the last PLACES", y.two(99, 0), 4647);
        Due.due("P21: PULL 100", x.two(100, 0), -2);
        Due.due("P21: PULL -1", x.two(-1, 0), -2);
        Due.due("P21: what 3", x.two(0, 3), -2);
        Due.due("P21: what -1", x.two(0, -1), -2);
    }

    /** Laws by which more pull may take fewer, and a piece of which little goes. */
    private static void twoOfOddLaws() {
        StitchLetFall x = Tell.under("rub 1+(50<pull)*98;minutes 1;seen 1;");
        Due.due("P21: by 99 none takes more than itself", x.two(99, 0), 1);
        Due.due("P21: so two are two", x.two(99, 1), 2);
        Due.due("P21: none more than the two alone", x.two(99, 2), 0);
        Due.due("P21: by 40 two columns", x.two(40, 1), 16);
        StitchLetFall z = new StitchLetFall();
        for (int c = 0; c < 48; c++) {
            z.pin(c, c == 0 || c == 2 ? 0 : 1);
        }
        Due.due("P21: the only two that go", z.two(99, 0), 2);
        Due.due("P21: they do", z.two(99, 1), 2);
        StitchLetFall y = new StitchLetFall();
        for (int c = 0; c < 48; c++) {
            y.pin(c, c == 42 || c == 36 || c == 30 ? 0 : 1);
        }
        Due.due("P21: one of the two may keep", y.two(99, 0), 42);
        Due.due("P21: all that may go", y.two(99, 1), 3);
        Due.due("P21: none more than from 42", y.two(99, 2), 0);
        Due.due("P21: 42 alone takes two by 11", y.two(11, 1), 3);
        Due.due("P21: with 30, of two below it", y.two(11, 0), 3042);
        Due.due("P21: none more than the two and the one", y.two(11, 2), 0);
        y.pin(0, 0);
        for (int c = 6; c < 30; c += 6) {
            y.pin(c, 0);
        }
        Due.due("P21: a column, and one that goes with it", y.two(99, 0), 42);
        Due.due("P21: one that goes from each alone is one of theirs", y.two(99, 2), 0);
    }

    /** From 42 alone its column goes to 24, from 30 alone 25 and all below it; from both no longer 24. */
    private static void twoByWhichFewerGo() {
        StitchLetFall x = Tell.under("rub 1+98*((row=4)*((place=1)=(pull<99))or(row<4)*(pull=99));minutes 1;seen 1;");
        for (int c = 0; c < 48; c++) {
            x.pin(c, 1);
        }
        for (int c : new int[] {42, 36, 30, 24, 25, 19, 13, 7, 1}) {
            x.pin(c, 0);
        }
        x.knit(30, 3, 0);
        x.knit(31, 4, 0);
        Due.due("P21: from 42 alone", x.goes(42, 99, 0), Tell.bits(42, 36, 30, 24));
        Due.due("P21: from 30 alone", x.goes(30, 99, 0), Tell.bits(30, 25, 19, 13, 7, 1));
        Due.due("P21: 30 and 42", x.two(99, 0), 3042);
        Due.due("P21: 8 from both", x.two(99, 1), 8);
        Due.due("P21: 9 from either alone", x.two(99, 2), -1);
    }

    private static void all() {
        StitchLetFall x = new StitchLetFall();
        Due.due("P22: of a column", x.all(42), 71);
        Due.due("P22: of one", x.all(0), 0);
        Due.due("P22: of two", x.all(6), 11);
        x.pin(6, 1);
        Due.due("P22: less two", x.all(42), 51);
        x.pin(42, 1);
        Due.due("P22: none goes", x.all(42), 0);
        // By 0 .. 19 all go, by 20 .. 89 one, by 90 .. 94 all again, by 95 .. 99 two.
        StitchLetFall y = Tell.under("rub (19<pull)*(pull<90)*99+(94<pull)*(row=5)*99;minutes 1;seen 1;");
        Due.due("P22: by 99", y.run(42, 99, 0), 2);
        Due.due("P22: never fewer from 90 on", y.all(42), 90);
        Due.due("P22: though as many went by less", y.run(42, 19, 0), 8);
        StitchLetFall z = Tell.under("rub (pull=98)*99;minutes 1;seen 1;");
        Due.due("P22: fewer by 98", z.all(42), 99);
        Due.due("P22: LOOP 48", x.all(48), -5);
        Due.due("P22: LOOP -1", x.all(-1), -5);
    }
}
