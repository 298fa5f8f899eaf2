/** Promises 1 to 6: a new object, THE TAPE, TEXTS, THE LAW. */
public final class LawTest {
    public static void main(String[] args) {
        newObject();
        counting();
        feeding();
        texts();
        faults();
        opened();
        forcing();
        asking();
        values();
        Due.end();
    }

    private static void newObject() {
        StitchLetFall x = new StitchLetFall();
        for (int c = 0; c < 48; c++) {
            int[] due = {0, 0, 1 << c % 6, 0, 0, 0};
            for (int what = 0; what < 6; what++) {
                Due.due("P1: told(" + c + ", " + what + ")", x.told(c, what), due[what]);
            }
        }
        for (int s = 0; s < 4; s++) {
            Due.due("P1: cell of a missing SHEET", x.cell(s, 0, 0), -11);
        }
        Due.due("P1: restore() without an image", x.restore(), StitchLetFall.STATE);
        Due.due("P1: asks rub", x.asks(0, 0, 0), 10);
        Due.due("P1: asks minutes", x.asks(1, 0, 0), 2);
        Due.due("P1: asks seen", x.asks(2, 0, 0), 1);
    }

    private static void counting() {
        StitchLetFall x = new StitchLetFall();
        int[] atFirst = {0, 0, 1, 0, 0};
        for (int what = 0; what < 5; what++) {
            Due.due("P2: count(" + what + ") at first", x.count(what), atFirst[what]);
        }
        x.pin(3, 1);
        x.pin(4, 1);
        x.mend(47, 99);
        Tell.text(x, "rub 1;minutes 1;seen 1;");
        Tell.text(x, "rub 2;minutes 2;seen 2;");
        x.force(1);
        x.feed(4, 1, 2, 3, 4, 5);
        int[] then = {2, 8, 3, 1, 4};
        for (int what = 0; what < 5; what++) {
            Due.due("P2: count(" + what + ")", x.count(what), then[what]);
        }
        Due.due("P2: count(-1)", x.count(-1), -2);
        Due.due("P2: count(5)", x.count(5), -2);
    }

    private static void feeding() {
        StitchLetFall x = new StitchLetFall();
        Due.due("P3: n 0", x.feed(0, 1, 1, 1, 1, 1), -2);
        Due.due("P3: n 6", x.feed(6, 1, 1, 1, 1, 1), -2);
        for (int i = 0; i < 5; i++) {
            int[] b = new int[5];
            b[i] = 256;
            Due.due("P3: byte " + i + " too large", x.feed(1, b[0], b[1], b[2], b[3], b[4]), -2);
            b[i] = -1;
            Due.due("P3: byte " + i + " below 0", x.feed(1, b[0], b[1], b[2], b[3], b[4]), -2);
        }
        Due.due("P3: none came", x.count(4), 0);
        int size = 0;
        for (int n = 1; n <= 5; n++) {
            size += n;
            Due.due("P3: feed of " + n, x.feed(n, 255, 0, 255, 0, 255), size);
        }
        for (; size < 155; size += 5) {
            x.feed(5, 32, 32, 32, 32, 32);
        }
        Due.due("P3: to 158", x.feed(3, 1, 1, 1, 1, 1), 158);
        Due.due("P3: no room for 3", x.feed(3, 1, 1, 1, 1, 1), -4);
        Due.due("P3: BAD ahead of FULL", x.feed(3, 1, 1, 1, 1, 256), -2);
        Due.due("P3: none of the 3 came", x.count(4), 158);
        Due.due("P3: room for 2", x.feed(2, 1, 1, 1, 1, 1), 160);
        Due.due("P3: room for none", x.feed(1, 1, 1, 1, 1, 1), -4);
        // The order of the bytes: read any other way this is no TEXT.
        StitchLetFall y = new StitchLetFall();
        y.feed(5, 'r', 'u', 'b', '1', ';');
        y.feed(4, 'm', 'i', 'n', 'u', 'x');
        y.feed(4, 't', 'e', 's', '1', 'x');
        y.feed(1, ';', 'x', 'x', 'x', 'x');
        y.feed(5, 's', 'e', 'e', 'n', '1');
        y.feed(1, ';', 0, 0, 0, 0);
        Due.due("P3: a TEXT came", y.text(), 1);
    }

    private static void texts() {
        StitchLetFall x = new StitchLetFall();
        Due.due("P4: the first", Tell.text(x, "rub 1 ; minutes 2 ; seen 3 ;"), 1);
        Due.due("P4: THE TAPE is empty then", x.count(4), 0);
        Due.due("P4: a FAULT", Tell.text(x, "rub 1 ; minutes 2 ; seen 3"), -126);
        Due.due("P4: THE TAPE is empty by a FAULT, too", x.count(4), 0);
        Due.due("P4: a FAULT is no TEXT", x.count(2), 2);
        Due.due("P4: without blanks", Tell.text(x, "rub1;minutes2;seen3;"), 2);
        Due.due("P4: with lines", Tell.text(x, "\n rub\n1\n;\n\nminutes 2 ;  seen 3 ; \n"), 3);
        Due.due("P4: 4 digits", Tell.text(x, "rub 0001;minutes 9999;seen 3;"), 4);
        Due.due("P4: all that may stand",
            Tell.text(x, "rub not not row<place or more=pull and-face*mended+1-2;minutes(2);seen(((3)));"), 5);
        Tell.feed(x, "rub 1;minutes 2;seen 3;");
        Due.due("P4: a seventh", x.text(), -4);
        Due.due("P4: THE TAPE stays", x.count(4), 23);
        Tell.feed(x, "?");
        Due.due("P4: FULL ahead of the FAULT", x.text(), -4);
        Due.due("P4: THE TAPE stays then, too", x.count(4), 24);
        Due.due("P4: six TEXTS", x.count(2), 6);
        StitchLetFall y = new StitchLetFall();
        for (int i = 0; i < 30; i++) {
            Tell.text(y, "rub 7;minutes 8;seen 9;;");
        }
        Due.due("P4: behind many FAULTS", Tell.text(y, "rub 1;minutes 2;seen 3;"), 1);
        y.force(1);
        Due.due("P4: nothing of them stays", y.asks(0, 0, 0) + 100 * y.asks(1, 0, 0) + 10000 * y.asks(2, 0, 0), 30201);
        x.force(1);
        Due.due("P4: what a TEXT says", x.asks(0, 9, 0) + 100 * x.asks(1, 9, 0) + 10000 * x.asks(2, 9, 0), 30201);
    }

    private static void fault(String text, int place) {
        StitchLetFall x = new StitchLetFall();
        Due.due("P4: FAULT of \"" + text + "\"", Tell.text(x, text), -100 - place);
        Due.due("P4: no TEXT by it", x.count(2), 1);
    }

    private static void faults() {
        fault("", 0);
        fault("   ", 3);
        fault("rub", 3);
        fault("rub  ", 5);
        fault("ru", 0);
        fault("rubs 1;", 0);
        fault("Rub 1;", 0);
        fault("minutes 1;", 0);
        fault("1", 0);
        fault("rub ;", 4);
        fault("rub 1 minutes", 6);
        fault("rub 1;seen 2;", 6);
        fault("rub 1;minutes 2;minutes 3;", 16);
        fault("rub 1;minutes 2;seen 3", 22);
        fault("rub 1;minutes 2;seen 3; ;", 24);
        fault("rub 1;minutes 2;seen 3;rub", 23);
        fault("rub 1;minutes 2;seen 3;?", 23);
        fault("rub 12345;", 4);
        fault("rub 00000;", 4);
        fault("rub 1 12345;", 6);
        fault("rub 1 2;", 6);
        fault("rub 12more;", 6);
        fault("rub pulls;", 4);
        fault("rub abcdefg;", 4);
        fault("rub zow;", 4);
        fault("zub 1;", 0);
        fault("rub 1 + ;", 8);
        fault("rub 1 * ;", 8);
        fault("rub 1 = ;", 8);
        fault("rub 1 < ;", 8);
        fault("rub 1 and ;", 10);
        fault("rub not ;", 8);
        fault("rub - ;", 6);
        fault("rub ( ;", 6);
        fault("rub (1 ;", 7);
        fault("rub (-);", 6);
        fault("rub (not);", 8);
        fault("rub 1 + * 2;", 8);
        fault("rub + 2;", 4);
        fault("rub 1 < 2 < 3;", 10);
        fault("rub 1 = 2 = 3;", 10);
        fault("rub 1 = 2 < 3;", 10);
        fault("rub 1 + not 2;", 8);
        fault("rub 1 = not 2;", 8);
        fault("rub - not 2;", 6);
        fault("rub (1;", 6);
        fault("rub 1);", 5);
        fault("rub ();", 5);
        fault("rub or 1;", 4);
        fault("rub 1 or ;", 9);
        fault("rub 1 or or 1;", 9);
        fault("rub 1 and or 1;", 10);
        fault("rub 1 not 1;", 6);
        fault("rub seen;", 4);
        fault("rub 1\t;", 5);
        fault("rub 1\r;", 5);
        fault("rub 1 / 2;", 6);
        fault("rub 1 > 2;", 6);
        fault("rub 1 : 2;", 6);
        fault("rub 1, 2;", 5);
        fault("rub " + (char) 0 + "1;", 4);
        fault("rub " + (char) 255 + "1;", 4);
        // THE TAPE's very end.
        String full = "rub 1;minutes 2;seen 3" + " ".repeat(136);
        fault(full + " 4", 159);
        fault(full + "+4", 160);
        fault(full + " a", 159);
        fault(full + "  ", 160);
        Due.due("P4: 160 bytes", Tell.text(new StitchLetFall(), full + " ;"), 1);
        // The first of two is told.
        fault("rub 1 ? 12345 pulls", 6);
    }

    private static void opened() {
        StitchLetFall x = new StitchLetFall();
        Due.due("P4: 5 (", Tell.text(x, "rub (((((1)))));minutes ((1)+((((1)))));seen (1)+(2)+(3)+(4)+(5)+(6);"), 1);
        fault("rub ((((((1))))));", 9);
        fault("rub ((((( (1))))));", 10);
        Due.due("P4: 5 not", Tell.text(x, "rub not not not not not 1;minutes not 1 or not 1 or not 1;seen 1;"), 2);
        fault("rub not not not not not not 1;", 24);
        fault("rub not not not not not (1);", 24);
        fault("rub not not not not not 1 + -1;", 28);
        fault("rub not not not not not 1 = -1;", 28);
        Due.due("P4: not ends with its NOT", Tell.text(x, "rub not not not not not 1 or -1;minutes 1;seen 1;"), 3);
        Due.due("P4: 5 -", Tell.text(x, "rub -----1;minutes 1-----1;seen -1-(((((1)))));"), 4);
        fault("rub ------1;", 9);
        fault("rub -----(1);", 9);
        Due.due("P4: - ends with its ONE", Tell.text(x, "rub -----1*(1);minutes -----1+-1;seen -1--1--1--1;"), 5);
        fault("rub ((not -(not 1)));", 12);
    }

    private static void forcing() {
        StitchLetFall x = new StitchLetFall();
        Due.due("P5: no such TEXT yet", x.force(1), -2);
        Tell.text(x, "rub 1;minutes 2;seen 3;");
        Due.due("P5: force(1)", x.force(1), 0);
        Due.due("P5: force(2)", x.force(2), -2);
        Due.due("P5: force(-1)", x.force(-1), -2);
        Due.due("P5: it is THE LAW", x.count(3), 1);
        Due.due("P5: it says", x.asks(0, 0, 0), 1);
        Due.due("P5: force(0)", x.force(0), 1);
        Due.due("P5: it says so no more", x.asks(0, 0, 0), 10);
    }

    private static void asking() {
        StitchLetFall x = new StitchLetFall();
        x.knit(7, 1, 4);
        Due.due("P6: rub of a PURL", x.asks(0, 7, 0), 11);
        Due.due("P6: minutes", x.asks(1, 7, 0), 6);
        Due.due("P6: seen", x.asks(2, 7, 0), 2);
        x.knit(7, 5, 4);
        Due.due("P6: rub of a BOUND", x.asks(0, 7, 0), 14);
        Due.due("P6: seen of a BOUND", x.asks(2, 7, 0), 1);
        x.knit(7, 3, 4);
        Due.due("P6: rub of a JOINED, as the TEXT says", x.asks(0, 7, 0), 14);
        Due.due("P6: no such LOOP", x.asks(0, 48, 0), -5);
        Due.due("P6: no such LOOP, ahead of the others", x.asks(3, -1, 100), -5);
        Due.due("P6: part 3", x.asks(3, 0, 0), -7);
        Due.due("P6: part -1", x.asks(-1, 0, 0), -7);
        Due.due("P6: pull 100", x.asks(0, 0, 100), -7);
        Due.due("P6: pull -1", x.asks(0, 0, -1), -7);
    }

    private static void value(String e, int c, int pull, int due) {
        StitchLetFall x = Tell.under("rub " + e + ";minutes " + e + ";seen " + e + ";");
        x.knit(32, 1, 7);
        x.mend(47, 99);
        for (int part = 0; part < 3; part++) {
            Due.due("P6: part " + part + ": " + e, x.asks(part, c, pull), due);
        }
    }

    private static void values() {
        value("10*row+place", 32, 0, 52);
        value("10*row+place", 5, 0, 5);
        value("more", 32, 0, 7);
        value("face", 32, 0, 1);
        value("face", 31, 0, 0);
        value("pull", 32, 99, 99);
        value("mended", 47, 0, 1);
        value("mended", 46, 0, 0);
        value("2+3*4", 0, 0, 14);
        value("(2+3)*4", 0, 0, 20);
        value("10-3-2", 0, 0, 5);
        value("10-(3-2)", 0, 0, 9);
        value("2*3*4-1", 0, 0, 23);
        value("-3+5", 0, 0, 2);
        value("5--3", 0, 0, 8);
        value("-2*-3", 0, 0, 6);
        value("3<4", 0, 0, 1);
        value("4<4", 0, 0, 0);
        value("5<4", 0, 0, 0);
        value("-1<0", 0, 0, 1);
        value("4=4", 0, 0, 1);
        value("3=4", 0, 0, 0);
        value("1+1=2", 0, 0, 1);
        value("7", 0, 0, 7);
        value("7 or 0", 0, 0, 1);
        value("0 or 7", 0, 0, 1);
        value("0 or 0", 0, 0, 0);
        value("7 and 8", 0, 0, 1);
        value("1 and 1", 0, 0, 1);
        value("7 and 0", 0, 0, 0);
        value("-1 and -1", 0, 0, 1);
        value("1 or 0 and 0", 0, 0, 1);
        value("not 0", 0, 0, 1);
        value("not 7", 0, 0, 0);
        value("not -1", 0, 0, 0);
        value("not 0+5", 0, 0, 0);
        value("not 5=4", 0, 0, 1);
        value("(not 5)=4", 0, 0, 0);
        value("(not 5)=0", 0, 0, 1);
        value("not 1 or 1", 0, 0, 1);
        value("not 0 and 0", 0, 0, 0);
        value("not not 7", 0, 0, 1);
        value("99", 0, 0, 99);
        value("100", 0, 0, 99);
        value("9999", 0, 0, 99);
        value("0-1", 0, 0, 0);
        // 9999 to the third is 999700029999: an int of it is below 0.
        value("9999*9999*9999", 0, 0, 0);
        value("-9999*9999*9999", 0, 0, 99);
        value("0-9999*9999*9999<0", 0, 0, 0);
    }
}
