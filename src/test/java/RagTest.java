/** Promises 32 to 36: rags told, and what did it. */
public final class RagTest {
    public static void main(String[] args) {
        judging();
        which();
        spans();
        laws();
        films();
        Due.end();
    }

    private static void judging() {
        StitchLetFall x = new StitchLetFall();
        Due.due("P32: SHEET 4", x.judge(4, 48, 100), -2);
        Due.due("P32: SHEET -1", x.judge(-1, 0, 0), -2);
        Due.due("P32: missing, ahead of the LOOP", x.judge(0, 48, 100), -11);
        x.sheet(0, 2, 47);
        Due.due("P32: 47 numbers, ahead of the LOOP", x.judge(0, 48, 100), -2);
        Tell.rag(x, 0, 42, 36, 30);
        Due.due("P32: LOOP 48", x.judge(0, 48, 100), -5);
        Due.due("P32: LOOP -1", x.judge(0, -1, 0), -5);
        Due.due("P32: PULL 100", x.judge(0, 0, 100), -7);
        Due.due("P32: PULL -1", x.judge(0, 0, -1), -7);
        Due.due("P32: so it goes", x.judge(0, 42, 21), -1);
        Due.due("P32: 24 goes, too", x.judge(0, 42, 31), 24);
        Due.due("P32: 30 doesn't go", x.judge(0, 42, 20), 30);
        Due.due("P32: of several the first", x.judge(0, 43, 99), 1);
        x.cell(0, 42, 2);
        Due.due("P32: 2 is neither", x.judge(0, 42, 21), 42);
        x.cell(0, 42, 1);
        x.cell(0, 3, -1);
        Due.due("P32: -1 is neither", x.judge(0, 42, 21), 3);
        x.cell(0, 3, 256);
        Due.due("P32: 256 is 0 in bytes", x.judge(0, 42, 21), -1);
    }

    private static void which() {
        StitchLetFall x = new StitchLetFall();
        Due.due("P33: SHEET 4", x.which(4, 0), StitchLetFall.NO);
        Due.due("P33: missing", x.which(0, 0), StitchLetFall.NO);
        x.sheet(0, 2, 8);
        Due.due("P33: 8 numbers", x.which(0, 0), StitchLetFall.NO);
        Tell.rag(x, 0, 12, 6);
        Due.due("P33: PULL 100", x.which(0, 100), StitchLetFall.NO);
        Due.due("P33: PULL -1", x.which(0, -1), StitchLetFall.NO);
        Due.due("P33: it was 12", x.which(0, 20), Tell.bits(12));
        Due.due("P33: it was none", x.which(0, 30), 0);
        Tell.rag(x, 1, 0);
        Due.due("P33: it was 0", x.which(1, 30), 1);
        x.pin(5, 1);
        x.knit(7, 5, 0);
        x.sheet(0, 2, 48);
        Due.due("P33: by those none goes", x.which(0, 30), Tell.bits(5, 7));
    }

    private static void spans() {
        StitchLetFall x = new StitchLetFall();
        Due.due("P34: SHEET 4", x.span(4, 48, 2), -2);
        Due.due("P34: missing", x.span(0, 48, 2), -11);
        x.sheet(0, 2, 8);
        Due.due("P34: 8 numbers", x.span(0, 48, 2), -2);
        Tell.rag(x, 0, 42, 36);
        Due.due("P34: LOOP 48", x.span(0, 48, 2), -5);
        Due.due("P34: LOOP -1", x.span(0, -1, 0), -5);
        Due.due("P34: what 2", x.span(0, 42, 2), -7);
        Due.due("P34: what -1", x.span(0, 42, -1), -7);
        Due.due("P34: from 11", x.span(0, 42, 0), 11);
        Due.due("P34: to 20", x.span(0, 42, 1), 20);
        Due.due("P34: the least from 43", x.span(0, 43, 0), -1);
        Due.due("P34: the greatest from 43", x.span(0, 43, 1), -1);
        StitchLetFall y = Tell.under("rub 98;minutes 1;seen 1;");
        Tell.rag(y, 0, 42, 36);
        Due.due("P34: from 99", y.span(0, 42, 0), 99);
        Tell.rag(x, 0, 0);
        Due.due("P34: from 0", x.span(0, 0, 0), 0);
        Due.due("P34: to 99", x.span(0, 0, 1), 99);
    }

    private static void laws() {
        StitchLetFall x = new StitchLetFall();
        Due.due("P35: SHEET 4", x.laws(4, 48, 100), -2);
        Due.due("P35: missing", x.laws(0, 48, 100), -11);
        x.sheet(0, 2, 8);
        Due.due("P35: 8 numbers", x.laws(0, 48, 100), -2);
        Tell.rag(x, 0, 42, 36);
        Due.due("P35: LOOP 48", x.laws(0, 48, 100), -5);
        Due.due("P35: LOOP -1", x.laws(0, -1, 0), -5);
        Due.due("P35: PULL 100", x.laws(0, 42, 100), -7);
        Due.due("P35: PULL -1", x.laws(0, 42, -1), -7);
        Tell.text(x, "rub 20;minutes 1;seen 1;");
        Tell.text(x, "rub 5;minutes 1;seen 1;");
        Tell.text(x, "rub 9;minutes 1;seen 1;");
        x.force(2);
        Due.due("P35: by 15 the first and the last", x.laws(0, 42, 15), 1 | 8);
        Due.due("P35: by 21 the second alone", x.laws(0, 42, 21), 2);
        Due.due("P35: by 10 the third and the fourth", x.laws(0, 42, 10), 4 | 8);
        Due.due("P35: by 5 none", x.laws(0, 42, 5), 0);
        Due.due("P35: THE LAW stays", x.count(3), 2);
        Tell.rag(x, 0, 0);
        Due.due("P35: LOOP 0 by all", x.laws(0, 0, 0), 15);
    }

    private static void films() {
        StitchLetFall x = new StitchLetFall();
        Due.due("P36: SHEET 4", x.film(4, 48, 100), -2);
        Due.due("P36: SHEET -1", x.film(-1, 0, 0), -2);
        Due.due("P36: LOOP 48", x.film(0, 48, 100), -5);
        Due.due("P36: LOOP -1", x.film(0, -1, 0), -5);
        Due.due("P36: PULL 100", x.film(0, 0, 100), -7);
        Due.due("P36: PULL -1", x.film(0, 0, -1), -7);
        Due.due("P36: still missing", x.cell(0, 0, 0), -11);
        Due.due("P36: a missing one becomes", x.film(0, 42, 21), 48);
        Due.due("P36: it is that of the RUN", x.judge(0, 42, 21), -1);
        x.sheet(1, 0, 3);
        x.cell(1, 2, 7);
        Due.due("P36: another sort becomes", x.film(1, 0, 0), 48);
        Due.due("P36: it is that of the RUN, too", x.judge(1, 0, 0), -1);
        Due.due("P36: 48 numbers", x.cell(1, 48, 0), -12);
        Due.due("P36: ints", x.knits(1, 2, 0, 0), 0);
        x.cell(1, 0, 256);
        Due.due("P36: truly ints", x.judge(1, 0, 0), 0);
    }
}
