/** The bounds that terms 1 name of TEXTS and FAULTS. */
public final class EdgeTextsTest {
    private static final String PLAIN = "rub 1;minutes 2;seen 3;";

    public static void main(String[] args) {
        tape();
        tokens();
        words();
        numbers();
        signs();
        blanks();
        text();
        orAnd();
        notAndCompare();
        sumTermOne();
        names();
        ints();
        truth();
        faults();
        endsTooEarly();
        begunByNoToken();
        open();
        tillTheyEnd();
        numbered();
        first();
        bounds();
        ofALoop();
        Edge.end();
    }

    private static void tape() {
        Edge.says("Terms 1", "A TEXT is read from THE TAPE (160 bytes at most).");
        StitchLetFall x = new StitchLetFall();
        Tell.feed(x, " ".repeat(137));
        Tell.feed(x, PLAIN);
        Edge.due(160, x, "count", 4);
        Edge.due(-4, x, "feed", 1, ' ', 0, 0, 0, 0);
        Edge.due(1, x, "text");
        Edge.due(0, x, "count", 4);
        StitchLetFall y = new StitchLetFall();
        Tell.feed(y, PLAIN + " ".repeat(136) + "?");
        Edge.due(-100 - 159, y, "text");
        StitchLetFall z = new StitchLetFall();
        Tell.feed(z, PLAIN + " ".repeat(137) + "?");
        Edge.due(160, z, "count", 4);
        Edge.due(1, z, "text");
    }

    private static void tokens() {
        Edge.says("Terms 1", "TOKENS, each as long as can be:");
        Edge.fine("rub1;minutes2;seen3;");
        Edge.fine("rub1and1or1;minutes row=place;seen-more;");
        Edge.fine("rub not(not-1);minutes 1<2and 3;seen 3;");
        Edge.fault(4, "rub rowrow;minutes 2;seen 3;");
        Edge.fault(4, "rub notnot 1;minutes 2;seen 3;");
        Edge.fault(4, "rub notrow;minutes 2;seen 3;");
        Edge.fault(5, "rub 1andor 1;minutes 2;seen 3;");
        Edge.fault(5, "rub 1androw;minutes 2;seen 3;");
        Edge.fault(0, "rubrow;minutes 2;seen 3;");
        Edge.fault(0, "ru b 1;minutes 2;seen 3;");
        Edge.fault(7, "rub 12 3;minutes 2;seen 3;");
        Edge.fault(6, "rub 12row;minutes 2;seen 3;");
        Edge.worth(12, "12");
        Edge.worth(12, "0012");
    }

    private static void words() {
        Edge.says("Terms 1", "WORDS (as many letters a .. z as stand there),");
        // The bytes ahead of a and behind z, and large letters, are none.
        Edge.fault(7, "rub row" + (char) 96 + ";");
        Edge.fault(7, "rub row" + (char) 123 + ";");
        Edge.fault(7, "rub rowA;");
        Edge.fault(7, "rub rowZ;");
        Edge.fault(7, "rub row_;");
        Edge.fault(4, "rub rowa;");
        Edge.fault(4, "rub rowz;");
        Edge.fault(4, "rub arow;");
        Edge.fault(4, "rub zrow;");
        Edge.fault(4, "rub ROW;");
        Edge.fault(0, "RUB 1;");
        Edge.fault(4, "rub " + "row".repeat(52));
        Edge.fault(7, "rub row1;");
        // Each letter of a WORD is its own.
        for (String word : new String[] {"rub", "row", "place", "more", "pull", "face", "mended", "not"}) {
            for (int i = 0; i < word.length(); i++) {
                String other = word.substring(0, i) + "q" + word.substring(i + 1);
                Edge.fault(word.equals("rub") ? 0 : 4, word.equals("rub") ? other + " 1;" : "rub " + other + " 1;");
            }
        }
    }

    private static void numbers() {
        Edge.says("Terms 1", "NUMBERS (as many digits as stand there; more than 4 are too long),");
        Edge.worth(0, "0");
        Edge.worth(9, "9");
        Edge.worth(0, "0000");
        Edge.worth(90, "0090");
        Edge.worth(99, "9999");
        Edge.worth(1, "9999=9998+1");
        Edge.worth(1, "9999=99*101");
        Edge.fault(4, "rub 00000;minutes 2;seen 3;");
        Edge.fault(4, "rub 00001;minutes 2;seen 3;");
        Edge.fault(4, "rub 10000;minutes 2;seen 3;");
        Edge.fault(4, "rub " + "1".repeat(150));
        // The bytes ahead of 0 and behind 9 are no digits.
        Edge.fault(6, "rub 12" + (char) 47 + ";");
        Edge.fault(6, "rub 12" + (char) 58 + ";");
    }

    private static void signs() {
        Edge.says("Terms 1", "SIGNS ( ) ; + - * < = ;");
        Edge.worth(3, "(3)");
        Edge.worth(5, "3+2");
        Edge.worth(1, "3-2");
        Edge.worth(6, "3*2");
        Edge.worth(0, "3<2");
        Edge.worth(1, "2<3");
        Edge.worth(0, "3=2");
        Edge.worth(1, "3=3");
        // All other bytes beside them begin no TOKEN.
        for (int b : new int[] {33, 34, 38, 39, 44, 46, 47, 58, 62, 63, 64, 91, 94, 95, 96, 123, 124, 126, 127, 128, 168, 255}) {
            Edge.fault(6, "rub 1 " + (char) b + " 1;minutes 2;seen 3;");
        }
        Edge.fault(7, "rub 1 <= 1;minutes 2;seen 3;");
        Edge.fault(7, "rub 1 == 1;minutes 2;seen 3;");
        Edge.fault(7, "rub 1 ** 1;minutes 2;seen 3;");
        Edge.fault(7, "rub 1 ++ 1;minutes 2;seen 3;");
        Edge.fine("rub 1 -- 1;minutes 2;seen 3;");
    }

    private static void blanks() {
        Edge.says("Terms 1", "blanks (32, 10) may stand between.");
        String spread = "rub (_ 1 + - row ) * 2 < 3 or not 4 = 5 ; minutes 2 ; seen 3 ;";
        Edge.fine(spread.replace('_', ' '));
        Edge.fine(spread.replace('_', ' ').replace(' ', '\n'));
        Edge.fine(spread.replace('_', '\n').replace(" ", " \n "));
        Edge.fine("\n " + PLAIN + " \n");
        for (int b : new int[] {0, 1, 8, 9, 11, 12, 13, 14, 31, 33, 133, 160}) {
            Edge.fault(3, "rub" + (char) b + "1;minutes 2;seen 3;");
            Edge.fault(5, "rub 1" + (char) b + ";minutes 2;seen 3;");
        }
        Edge.fault(0, "r ub 1;minutes 2;seen 3;");
        Edge.fault(0, "r\nub 1;minutes 2;seen 3;");
        Edge.fault(6, "rub 1 1;minutes 2;seen 3;");
        Edge.fault(6, "rub 1\n1;minutes 2;seen 3;");
    }

    private static void text() {
        Edge.says("Terms 1", "TEXT: rub E ; minutes E ; seen E ; E:");
        Edge.fine(PLAIN);
        Edge.fault(0, "1;minutes 2;seen 3;");
        Edge.fault(3, "rub;minutes 2;seen 3;");
        Edge.fault(6, "rub 1 minutes 2;seen 3;");
        Edge.fault(6, "rub 1;2;seen 3;");
        Edge.fault(13, "rub 1;minutes;seen 3;");
        Edge.fault(16, "rub 1;minutes 2 seen 3;");
        Edge.fault(16, "rub 1;minutes 2;3;");
        Edge.fault(20, "rub 1;minutes 2;seen;");
        Edge.fault(22, "rub 1;minutes 2;seen 3");
        Edge.fault(0, "minutes 2;rub 1;seen 3;");
        Edge.fault(6, "rub 1;seen 3;minutes 2;");
        Edge.fault(6, "rub 1;rub 1;minutes 2;seen 3;");
        Edge.fault(6, "rub 1;;minutes 2;seen 3;");
        Edge.fault(0, ";" + PLAIN);
        for (String more : new String[] {"rub", ";", "1", "row", "(", ")", "-", "not", "or", "x", "12345", "?"}) {
            Edge.fault(23, PLAIN + more);
        }
    }

    private static void orAnd() {
        Edge.says("Terms 1", "E: AND { or AND }.");
        Edge.worth(7, "7");
        Edge.worth(1, "0 or 7");
        Edge.worth(1, "0 or 0 or 0 or 7");
        Edge.worth(0, "0 or 0 or 0 or 0");
        Edge.worth(1, "7 or 0 and 0");
        Edge.fault(8, "rub 1 or;minutes 2;seen 3;");
        Edge.fault(4, "rub or 1;minutes 2;seen 3;");
        Edge.fault(9, "rub 1 or or 1;minutes 2;seen 3;");
        Edge.says("Terms 1", "AND: NOT { and NOT }.");
        Edge.worth(7, "7");
        Edge.worth(1, "7 and 8");
        Edge.worth(1, "1 and 2 and 3 and 4");
        Edge.worth(0, "1 and 2 and 3 and 0");
        Edge.worth(0, "0 and 2 and 3 and 4");
        Edge.worth(1, "0 and 0 or 7");
        Edge.fault(9, "rub 1 and;minutes 2;seen 3;");
        Edge.fault(4, "rub and 1;minutes 2;seen 3;");
        Edge.fault(10, "rub 1 and and 1;minutes 2;seen 3;");
        Edge.fault(10, "rub 1 and or 1;minutes 2;seen 3;");
    }

    private static void notAndCompare() {
        Edge.says("Terms 1", "NOT: not NOT, or SUM, perhaps < or = and a SUM.");
        Edge.worth(1, "not 0");
        Edge.worth(0, "not 7");
        Edge.worth(1, "not not 7");
        Edge.worth(1, "not 3<2");
        Edge.worth(0, "not 2<3");
        Edge.worth(1, "not 7 or 7");
        Edge.worth(0, "not 0 and 0");
        Edge.worth(1, "1+1<1*3");
        Edge.worth(1, "1+1=1*2");
        Edge.worth(0, "2=1+2");
        Edge.fault(9, "rub 1<2  <3;minutes 2;seen 3;");
        Edge.fault(7, "rub 1<2<3;minutes 2;seen 3;");
        Edge.fault(7, "rub 1=2=3;minutes 2;seen 3;");
        Edge.fault(7, "rub 1<2=3;minutes 2;seen 3;");
        Edge.fine("rub (1<2)<3;minutes 2;seen 3;");
        Edge.fault(7, "rub not;minutes 2;seen 3;");
        Edge.fault(6, "rub 1 not 1;minutes 2;seen 3;");
        Edge.fault(6, "rub 1=not 1;minutes 2;seen 3;");
        Edge.fault(6, "rub 1+not 1;minutes 2;seen 3;");
        Edge.fault(6, "rub 1*not 1;minutes 2;seen 3;");
        Edge.fault(5, "rub -not 1;minutes 2;seen 3;");
        Edge.fault(4, "rub <1;minutes 2;seen 3;");
        Edge.fault(4, "rub =1;minutes 2;seen 3;");
        Edge.fault(6, "rub 1<;minutes 2;seen 3;");
        Edge.fault(6, "rub 1=;minutes 2;seen 3;");
    }

    private static void sumTermOne() {
        Edge.says("Terms 1", "SUM: TERM { + or - TERM }.");
        Edge.worth(5, "10-3-2");
        Edge.worth(9, "10-3+2");
        Edge.worth(5, "10+2-3-4");
        Edge.worth(7, "1+2*3");
        Edge.fault(6, "rub 1+;minutes 2;seen 3;");
        Edge.fault(6, "rub 1-;minutes 2;seen 3;");
        Edge.fault(4, "rub +1;minutes 2;seen 3;");
        Edge.fault(6, "rub 1++1;minutes 2;seen 3;");
        Edge.fault(6, "rub 1-+1;minutes 2;seen 3;");
        Edge.says("Terms 1", "TERM: ONE { * ONE }.");
        Edge.worth(24, "2*3*4");
        Edge.worth(0, "2*3*0");
        Edge.worth(20, "(2+3)*4");
        Edge.fault(6, "rub 1*;minutes 2;seen 3;");
        Edge.fault(4, "rub *1;minutes 2;seen 3;");
        Edge.fault(6, "rub 1**1;minutes 2;seen 3;");
        Edge.says("Terms 1", "ONE: a NUMBER, a NAME, - ONE, ( E ).");
        Edge.worth(2, "-3+5");
        Edge.worth(3, "--3");
        Edge.worth(8, "5--3");
        Edge.worth(6, "-2*-3");
        Edge.worth(1, "(0 or 7)");
        Edge.worth(7, "((7))");
        Edge.worth(0, "-row");
        Edge.fault(5, "rub -;minutes 2;seen 3;");
        Edge.fault(5, "rub (;minutes 2;seen 3;");
        Edge.fault(5, "rub ();minutes 2;seen 3;");
        Edge.fault(6, "rub (1;minutes 2;seen 3;");
        Edge.fault(5, "rub 1);minutes 2;seen 3;");
        Edge.fault(5, "rub 1(2);minutes 2;seen 3;");
        Edge.fault(7, "rub (1)2;minutes 2;seen 3;");
        Edge.fault(7, "rub -(-);minutes 2;seen 3;");
    }

    private static void names() {
        Edge.says("Terms 1", "NAMES: row place more pull face mended.");
        Edge.fine("rub row+place;minutes more+pull;seen face+mended;");
        for (String no : new String[] {"ro", "rows", "plac", "mor", "mores", "pul", "fac", "mende", "mend", "x", "kind", "loop", "pinned"}) {
            Edge.fault(4, "rub " + no + ";minutes 2;seen 3;");
        }
        for (String key : new String[] {"rub", "minutes", "seen", "and", "or"}) {
            Edge.fault(4, "rub " + key + ";minutes 2;seen 3;");
        }
        for (String name : new String[] {"row", "place", "more", "pull", "face", "mended"}) {
            Edge.fault(0, name + " 1;minutes 2;seen 3;");
            Edge.fault(6, "rub 1;" + name + " 2;seen 3;");
            Edge.fault(6, "rub 1 " + name + ";minutes 2;seen 3;");
        }
    }

    private static void ints() {
        Edge.says("Terms 1", "An E is an int (32 bits, wrapping):");
        // 4096 times 8192 times 64 is 2 to the 31st.
        Edge.worth(1, "4096*8192*64<0");
        Edge.worth(0, "4096*8192*64-1<0");
        Edge.worth(99, "4096*8192*64-1");
        Edge.worth(0, "4096*8192*64");
        Edge.worth(1, "4096*8192*64-1+1<0");
        Edge.worth(1, "-(4096*8192*64)<0");
        Edge.worth(1, "0-4096*8192*64=4096*8192*64");
        Edge.worth(1, "4096*8192*128=0");
        Edge.worth(1, "4096*8192*64<4096*8192*64-1");
        Edge.worth(7, "4096*8192*128+7");
        // 9999 to the third is 233 times 2 to the 32nd, less 1027349969.
        Edge.worth(1, "9999*9999*9999<0");
        Edge.worth(1, "9999*9999*9999=-(1027*1000*1000+349*1000+969)");
    }

    private static void truth() {
        Edge.says("Terms 1", "of or, and, not, <, = 1 or 0 (what is not 0 is true).");
        Edge.worth(1, "7 or 9");
        Edge.worth(1, "0 or -1");
        Edge.worth(1, "-1 or 0");
        Edge.worth(0, "0 or 0");
        Edge.worth(1, "2 and 4");
        Edge.worth(1, "-1 and -1");
        Edge.worth(0, "0 and 7");
        Edge.worth(0, "7 and 0");
        Edge.worth(0, "not 2");
        Edge.worth(0, "not -1");
        Edge.worth(1, "not 0");
        Edge.worth(1, "4096*8192*64 and 1");
        Edge.worth(0, "not 4096*8192*64");
        Edge.worth(1, "not 4096*8192*128");
        Edge.worth(1, "-1<0");
        Edge.worth(0, "0<0");
        Edge.worth(0, "0<-1");
        Edge.worth(1, "-1=0-1");
        Edge.worth(0, "0=1");
        Edge.worth(3, "(2<3)+(3=3)+(not 0)");
        Edge.worth(2, "(5 or 0)+(5 and 6)");
    }

    private static void faults() {
        Edge.says("Terms 1", "FAULT: the place of the first byte of the first TOKEN that can't stand there");
        Edge.fault(0, "12 rub 1;");
        Edge.fault(2, "  12 rub 1;");
        Edge.fault(9, "rub 1    minutes;");
        Edge.fault(6, "rub 1\nseen;");
        Edge.fault(6, "rub 1 2 ? 12345 xyz");
        Edge.fault(6, "rub 1 ) rub");
        Edge.fault(6, "rub 1 minutes 2;seen 3;");
        Edge.fault(21, "rub 1;minutes 2;seen minutes;");
        // The last byte of THE TAPE that can be a FAULT's, and the first one.
        Edge.fault(159, "rub 1;minutes 2;seen 3;" + " ".repeat(136) + ";");
        Edge.fault(156, "rub 1;minutes 2;seen 3;" + " ".repeat(133) + "seen");
        Edge.fault(0, ")");
    }

    private static void endsTooEarly() {
        Edge.says("Terms 1", "(the text's size, if it ends too early)");
        for (int n = 0; n < PLAIN.length(); n++) {
            // Where a WORD is cut, it is neither KEY nor NAME.
            int place = n > 0 && n < 3 ? 0 : n > 6 && n < 13 ? 6 : n > 16 && n < 20 ? 16 : n;
            Edge.fault(place, PLAIN.substring(0, n));
        }
        for (String open : new String[] {"rub 1 or", "rub 1 and", "rub not", "rub 1 <", "rub 1 =", "rub 1+", "rub 1-", "rub 1*", "rub -", "rub (", "rub (1", "rub (1)", "rub (row"}) {
            Edge.fault(open.length(), open);
            Edge.fault(open.length() + 2, open + " \n");
        }
        Edge.fault(1, " ");
        Edge.fault(160, "rub 1;minutes 2;seen 3" + " ".repeat(138));
        Edge.fault(160, " ".repeat(160));
        Edge.fault(159, " ".repeat(159));
    }

    private static void begunByNoToken() {
        Edge.says("Terms 1", ", also of a byte that begins none, of a WORD that is neither KEY nor NAME, a NUMBER that is too long,");
        for (int b : new int[] {0, 9, 13, 31, 33, 39, 44, 46, 47, 58, 62, 64, 65, 90, 91, 96, 123, 127, 128, 255}) {
            Edge.fault(0, (char) b + "rub 1;");
            Edge.fault(4, "rub " + (char) b + ";");
            Edge.fault(23, PLAIN + (char) b);
        }
        Edge.fault(0, "rubs 1;");
        Edge.fault(0, "ru 1;");
        Edge.fault(4, "rub rub rub;");
        Edge.fault(4, "rub nots;");
        Edge.fault(6, "rub 1 ands 1;");
        Edge.fault(6, "rub 1;minute 2;");
        Edge.fault(6, "rub 1;minutess 2;");
        Edge.fault(16, "rub 1;minutes 2;see 3;");
        Edge.fault(16, "rub 1;minutes 2;seens 3;");
        Edge.fault(4, "rub 12345;");
        Edge.fault(6, "rub 1 12345;");
        Edge.fault(0, "12345");
        Edge.fault(23, PLAIN + "12345");
        Edge.fault(23, PLAIN + "xyz");
    }

    /** How many of a sign stand in a row of openers. */
    private static int many(String openers, char sign) {
        return (int) openers.chars().filter(c -> c == sign).count();
    }

    /** A row of openers by a number's digits to the base of 3: n for not, m for -, b for (. */
    private static String openers(int number, int size) {
        StringBuilder s = new StringBuilder();
        for (int i = 0, left = number; i < size; i++, left /= 3) {
            s.append("nmb".charAt(left % 3));
        }
        return s.toString();
    }

    private static String written(String openers) {
        return openers.replace("n", "not ").replace("m", "-").replace("b", "(");
    }

    private static void open() {
        Edge.says("Terms 1", "a ( , a not, a - ahead of a ONE while 5 of these are open");
        for (int number = 0; number < 729; number++) {
            String six = openers(number, 6);
            String five = six.substring(0, 5);
            // A not can't stand behind a -, whatever is open.
            if (six.contains("mn")) {
                continue;
            }
            Edge.fault(4 + written(five).length(), "rub " + written(six) + "1" + ")".repeat(many(six, 'b')) + ";minutes 2;seen 3;");
            if (number < 243) {
                Edge.fine("rub " + written(five) + "1" + ")".repeat(many(five, 'b')) + ";minutes 2;seen 3;");
            }
        }
        Edge.fine("rub (((((1-1)))));minutes 2;seen 3;");
        Edge.fault(9, "rub (((((-1)))));minutes 2;seen 3;");
        Edge.fault(11, "rub (((((1--1)))));minutes 2;seen 3;");
        Edge.fault(19, "rub 1;minutes (((((not 1)))));seen 3;");
        Edge.fault(26, "rub 1;minutes 2;seen -----(3);");
    }

    private static void tillTheyEnd() {
        Edge.says("Terms 1", "(a ( till its ) , not and - till what they belong to ends).");
        Edge.fine("rub (((((1)))))+(((((1)))))*(((((1)))));minutes (((((1)))));seen (((((1)))));");
        Edge.fine("rub ((((1)+(1))+(1))+(1))+(1);minutes 2;seen 3;");
        Edge.fault(13, "rub (((((1)+((1))))));minutes 2;seen 3;");
        Edge.fine("rub not not not not not 1 and not not not not not 1 or not 1;minutes 2;seen 3;");
        Edge.fault(28, "rub not not not not not 1 < -1;minutes 2;seen 3;");
        Edge.fault(28, "rub not not not not not 1 = (1);minutes 2;seen 3;");
        Edge.fault(28, "rub not not not not not 1 * (1);minutes 2;seen 3;");
        Edge.fine("rub not not not not not 1 and -1;minutes 2;seen 3;");
        Edge.fine("rub not not not not not 1 or (1);minutes 2;seen 3;");
        Edge.fine("rub -----1*-----1+-----1---1;minutes -1;seen -----1<-----1 or not-1;");
        Edge.fine("rub -----row*(((((1)))));minutes 2;seen 3;");
        Edge.fine("rub ((((-1*(1)))));minutes 2;seen 3;");
        Edge.fault(14, "rub ((((not 1*(1)))));minutes 2;seen 3;");
        Edge.fine("rub ((((not 1)*(1))));minutes 2;seen 3;");
        Edge.fine("rub -(-(-1)*-(-1));minutes 2;seen 3;");
    }

    private static void numbered() {
        Edge.says("Terms 1", "TEXTS are numbered from 0 on, 6 at most;");
        StitchLetFall x = new StitchLetFall();
        for (int t = 1; t < 6; t++) {
            Edge.due(t, x, "count", 2);
            Tell.feed(x, "rub " + t + ";minutes 2;seen 3;");
            Edge.due(t, x, "text");
        }
        Tell.feed(x, PLAIN);
        Edge.due(-4, x, "text");
        Edge.due(6, x, "count", 2);
        for (int t = 1; t < 6; t++) {
            Edge.due(t - 1, x, "force", t);
            Edge.due(t, x, "asks", 0, 0, 0);
        }
        Edge.due(-2, x, "force", 6);
    }

    private static void first() {
        Edge.says("Terms 1", "TEXT 0, at first, and THE LAW: rub 10 + more - face * 3 ; minutes 2 + more ; seen 1 + face ;");
        StitchLetFall x = new StitchLetFall();
        Edge.due(1, x, "count", 2);
        Edge.due(0, x, "count", 3);
        Edge.due(0, x, "count", 4);
        int[][] kindsAndMore = {{0, 0}, {0, 9}, {1, 0}, {1, 9}, {5, 9}, {3, 4}};
        int[][] says = {{10, 2, 1}, {19, 11, 1}, {7, 2, 2}, {16, 11, 2}, {19, 11, 1}, {14, 6, 1}};
        for (int i = 0; i < says.length; i++) {
            x.knit(30, kindsAndMore[i][0], kindsAndMore[i][1]);
            for (int part = 0; part < 3; part++) {
                Edge.due(says[i][part], x, "asks", part, 30, 50);
            }
        }
    }

    private static void bounds() {
        Edge.says("Terms 1", "(each 0 .. 99, else the bound):");
        int[][] worth = {{-9999, 0}, {-2, 0}, {-1, 0}, {0, 0}, {1, 1}, {98, 98}, {99, 99}, {100, 99}, {101, 99}, {9999, 99}};
        for (int[] w : worth) {
            String e = w[0] < 0 ? "-" + -w[0] : "" + w[0];
            StitchLetFall x = Tell.under("rub " + e + ";minutes " + e + ";seen " + e + ";");
            for (int part = 0; part < 3; part++) {
                Edge.due(w[1], x, "asks", part, 0, 0);
            }
            Edge.due(w[1], x, "run", 0, 0, 2);
            Edge.due(w[1], x, "run", 0, 0, 3);
        }
    }

    private static void ofALoop() {
        Edge.says("Terms 1", "of a LOOP: row, place, more, face: its own; mended: 1, if it is MENDED, else 0; pull: as told below.");
        String[] names = {"row", "place", "more", "face", "mended", "pull"};
        for (String name : names) {
            StitchLetFall x = Tell.under("rub " + name + ";minutes 1+" + name + ";seen " + name + "*2;");
            x.knit(16, 1, 9);
            x.mend(47, 0);
            int[] loops = {0, 16, 17, 47};
            int[][] due = {{0, 0, 0, 0, 0, 7}, {2, 4, 9, 1, 0, 7}, {2, 5, 0, 0, 0, 7}, {7, 5, 0, 0, 1, 7}};
            for (int i = 0; i < loops.length; i++) {
                int v = due[i][java.util.Arrays.asList(names).indexOf(name)];
                Edge.due(v, x, "asks", 0, loops[i], 7);
                Edge.due(v + 1, x, "asks", 1, loops[i], 7);
                Edge.due(v * 2, x, "asks", 2, loops[i], 7);
            }
        }
        StitchLetFall y = Tell.under("rub pull;minutes pull;seen pull;");
        Edge.due(0, y, "asks", 0, 0, 0);
        Edge.due(99, y, "asks", 2, 0, 99);
        StitchLetFall z = Tell.under("rub mended;minutes mended;seen mended;");
        z.mend(47, 0);
        z.block();
        Edge.due(0, z, "asks", 0, 47, 0);
    }
}
