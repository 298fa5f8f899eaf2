import java.util.Arrays;
import java.util.Random;

/** Runs of calls by a fixed seed, each answer held against Plain's. */
public final class RandomTest {
    private static final String[] PIECES = {
        "rub", "minutes", "seen", "or", "and", "not", "row", "place", "more", "pull", "face", "mended", "(", ")", ";", "+",
        "-", "*", "<", "=", " ", "\n", "0", "7", "12", "9999", "12345", "x", "rubs", "A", "\t", "ro", "-", "(", "not "};
    // What may go to each parameter of a call, as a letter: what() tells them.
    private static final String[] KINDS = {
        "5", "fbbbbb", "", "6", "3cp", "ckm", "rkm", "c6", "c2", "c3", "", "c", "cp4", "cp2", "cpc", "p2", "qp2", "cn", "cc",
        "p3", "c", "r3", "s", "", "cpn3", "cp2", "cp", "", "", "cm", "scp", "sp", "sc2", "scp", "scp", "Scph", "SNcph2", "", "",
        "sti", "siv", "sisii", "stik", "jK"};

    private static final Random LOTS = new Random(20261119);

    public static void main(String[] args) {
        int runs = args.length > 0 ? Integer.parseInt(args[0]) : 150;
        for (int run = 0; run < runs; run++) {
            one(run);
        }
        Due.end();
    }

    private static void one(int run) {
        StitchLetFall x = new StitchLetFall();
        Plain plain = new Plain();
        int cost = 0;
        for (int call = 0; call < 512; call++) {
            if (LOTS.nextInt(14) == 0) {
                call += tell(run, x, plain, LOTS.nextInt(3) == 0 ? broken() : law());
                continue;
            }
            if (LOTS.nextInt(25) == 0) {
                call += fill(run, x, plain);
                continue;
            }
            int which = call < 12 ? 5 + LOTS.nextInt(2) : LOTS.nextInt(Calls.NAMES.size());
            if (Calls.NAMES.get(which).equals("two") && cost++ > 0) {
                continue;
            }
            if (Calls.NAMES.get(which).equals("row") && LOTS.nextInt(4) != 0) {
                which--;
            }
            int[] a = new int[Calls.parametersOf(Calls.NAMES.get(which))];
            for (int i = 0; i < a.length; i++) {
                a[i] = what(KINDS[which].charAt(i));
            }
            held(run, x, plain, which, a);
        }
    }

    private static void held(int run, StitchLetFall x, Plain plain, int which, int... a) {
        String name = Calls.NAMES.get(which);
        Due.due("run " + run + ": " + name + Arrays.toString(a), Calls.answer(x, name, a), plain.call(name, a));
    }

    /** Makes a SHEET that fits slip() or judge(), more or less. */
    private static int fill(int run, StitchLetFall x, Plain plain) {
        int s = LOTS.nextInt(4);
        if (LOTS.nextBoolean()) {
            held(run, x, plain, 39, s, LOTS.nextInt(3), 8);
            for (int r = 1; r < 8; r++) {
                held(run, x, plain, 40, s, r, (int) plain.call("counts", new int[] {r, 1}) + (LOTS.nextInt(20) == 0 ? 1 : 0));
            }
            held(run, x, plain, 22, s);
            return 9;
        }
        int c = LOTS.nextInt(48);
        int pull = LOTS.nextInt(100);
        held(run, x, plain, 34, s, c, pull);
        held(run, x, plain, 30, s, c, LOTS.nextInt(100));
        held(run, x, plain, 31, s, pull);
        held(run, x, plain, 32, s, c, 0);
        held(run, x, plain, 32, s, c, 1);
        held(run, x, plain, 33, s, c, pull);
        return 6;
    }

    private static int tell(int run, StitchLetFall x, Plain plain, String text) {
        held(run, x, plain, 0, 4);
        int calls = 1;
        for (int i = 0; i < text.length(); i += 5) {
            int[] a = new int[6];
            a[0] = Math.min(5, text.length() - i);
            for (int k = 0; k < a[0]; k++) {
                a[k + 1] = text.charAt(i + k);
            }
            held(run, x, plain, 1, a);
            calls++;
        }
        held(run, x, plain, 2);
        held(run, x, plain, 0, 4);
        held(run, x, plain, 3, LOTS.nextInt(6));
        return calls + 3;
    }

    private static String law() {
        return "rub " + expression(3) + ";minutes " + expression(2) + ";seen " + expression(2) + ";";
    }

    private static String expression(int deep) {
        String[] signs = {"+", "-", "*", " or ", " and ", "<", "=", "*", "-", "+"};
        int how = deep <= 0 ? LOTS.nextInt(2) : LOTS.nextInt(8);
        switch (how) {
            case 0: return "" + LOTS.nextInt(LOTS.nextBoolean() ? 12 : 10000);
            case 1: return PIECES[6 + LOTS.nextInt(6)];
            case 2: return "-" + expression(0);
            case 3: return "(" + expression(deep - 1) + ")";
            case 4: return LOTS.nextBoolean() ? "(not " + expression(deep - 1) + ")" : "not " + expression(deep - 1);
            default: return expression(deep - 1) + signs[LOTS.nextInt(signs.length)] + expression(deep - 1);
        }
    }

    private static String broken() {
        StringBuilder b = new StringBuilder(LOTS.nextBoolean() ? law() : "rub 1");
        int changes = 1 + LOTS.nextInt(4);
        for (int i = 0; i < changes; i++) {
            int at = LOTS.nextInt(b.length() + 1);
            if (LOTS.nextInt(3) == 0 && at < b.length()) {
                b.deleteCharAt(at);
            } else {
                b.insert(at, PIECES[LOTS.nextInt(PIECES.length)]);
            }
        }
        return b.toString();
    }

    private static int what(char kind) {
        if (LOTS.nextInt(25) == 0) {
            int[] odd = {-1, -2, 48, 49, 100, 101, 99999, 100000, Integer.MAX_VALUE, Integer.MIN_VALUE, 6, 8, 56, 256, 47, 55};
            return odd[LOTS.nextInt(odd.length)];
        }
        switch (kind) {
            case 'c': return LOTS.nextInt(3) == 0 ? LOTS.nextInt(48) : 24 + LOTS.nextInt(24);
            case 'p': return LOTS.nextInt(3) == 0 ? LOTS.nextInt(100) : 60 + LOTS.nextInt(40);
            case 'k': return LOTS.nextInt(6);
            case 'K': return LOTS.nextInt(7);
            case 'm': return LOTS.nextInt(10);
            case 'r': return LOTS.nextInt(8);
            case 'q': return LOTS.nextInt(6);
            case 'n': return LOTS.nextInt(9);
            case 's': return LOTS.nextInt(4);
            case 'S': return LOTS.nextInt(100000);
            case 'N': return 1 + LOTS.nextInt(50);
            case 'h': return LOTS.nextInt(101);
            case 'f': return 1 + LOTS.nextInt(5);
            case 'b': return LOTS.nextInt(256);
            case 't': return LOTS.nextInt(3);
            case 'i': return LOTS.nextInt(LOTS.nextBoolean() ? 49 : 10);
            case 'j': return LOTS.nextInt(56);
            case 'v': return LOTS.nextInt(2) == 0 ? LOTS.nextInt(48) : LOTS.nextInt(6);
            default: return LOTS.nextInt(kind - '0');
        }
    }
}
