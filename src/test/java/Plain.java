import java.math.BigInteger;
import java.util.ArrayList;
import java.util.Arrays;
import java.util.List;
import java.util.TreeMap;
import java.util.TreeSet;
import java.util.regex.Matcher;
import java.util.regex.Pattern;

/**
 * The document again, in the most literal way and with all of the Java library: sets, trees, exceptions. RandomTest
 * holds the class against it, so nothing here is taken over from there.
 */
final class Plain {
    static final long NO = -4611686018427387904L;

    /** A refusal or an answer found early. */
    static final class Answer extends RuntimeException {
        final long value;

        Answer(long value) {
            super(null, null, false, false);
            this.value = value;
        }
    }

    interface Expression {
        int value(TreeMap<String, Integer> names);
    }

    // ---- TEXTS

    static final class Parser {
        static final Pattern TOKEN = Pattern.compile("[a-z]+|[0-9]+|[();+*<=-]");
        static final List<String> NAMES = Arrays.asList("row", "place", "more", "pull", "face", "mended");
        final String text;
        final List<String> tokens = new ArrayList<>();
        final List<Integer> places = new ArrayList<>();
        int next = 0;
        int open = 0;

        Parser(String text) {
            this.text = text;
            int i = 0;
            while (i < text.length()) {
                if (text.charAt(i) == 32 || text.charAt(i) == 10) {
                    i++;
                    continue;
                }
                Matcher m = TOKEN.matcher(text).region(i, text.length());
                String token = m.lookingAt() ? m.group() : "?";
                tokens.add(token);
                places.add(i);
                i += token.length();
            }
        }

        String ahead() {
            return next < tokens.size() ? tokens.get(next) : "";
        }

        Answer fault() {
            return new Answer(-100 - (next < tokens.size() ? places.get(next) : text.length()));
        }

        void must(String token) {
            if (!ahead().equals(token)) {
                throw fault();
            }
            next++;
        }

        boolean may(String token) {
            if (ahead().equals(token)) {
                next++;
                return true;
            }
            return false;
        }

        void opens(String token) {
            if (open == 5) {
                throw fault();
            }
            must(token);
            open++;
        }

        Expression[] text() {
            Expression[] parts = new Expression[3];
            String[] keys = {"rub", "minutes", "seen"};
            for (int i = 0; i < 3; i++) {
                must(keys[i]);
                parts[i] = e();
                must(";");
            }
            if (next < tokens.size()) {
                throw fault();
            }
            return parts;
        }

        Expression e() {
            Expression left = and();
            while (may("or")) {
                Expression a = left;
                Expression b = and();
                left = n -> a.value(n) != 0 | b.value(n) != 0 ? 1 : 0;
            }
            return left;
        }

        Expression and() {
            Expression left = not();
            while (may("and")) {
                Expression a = left;
                Expression b = not();
                left = n -> a.value(n) != 0 & b.value(n) != 0 ? 1 : 0;
            }
            return left;
        }

        Expression not() {
            if (ahead().equals("not")) {
                opens("not");
                Expression a = not();
                open--;
                return n -> a.value(n) == 0 ? 1 : 0;
            }
            Expression a = sum();
            if (may("<")) {
                Expression b = sum();
                return n -> a.value(n) < b.value(n) ? 1 : 0;
            }
            if (may("=")) {
                Expression b = sum();
                return n -> a.value(n) == b.value(n) ? 1 : 0;
            }
            return a;
        }

        Expression sum() {
            Expression left = term();
            while (true) {
                Expression a = left;
                if (may("+")) {
                    Expression b = term();
                    left = n -> a.value(n) + b.value(n);
                } else if (may("-")) {
                    Expression b = term();
                    left = n -> a.value(n) - b.value(n);
                } else {
                    return left;
                }
            }
        }

        Expression term() {
            Expression left = one();
            while (may("*")) {
                Expression a = left;
                Expression b = one();
                left = n -> a.value(n) * b.value(n);
            }
            return left;
        }

        Expression one() {
            String token = ahead();
            if (token.matches("[0-9]{1,4}")) {
                next++;
                return n -> Integer.parseInt(token);
            }
            if (NAMES.contains(token)) {
                next++;
                return n -> n.get(token);
            }
            if (token.equals("-")) {
                opens("-");
                Expression a = one();
                open--;
                return n -> -a.value(n);
            }
            if (token.equals("(")) {
                opens("(");
                Expression a = e();
                must(")");
                open--;
                return a;
            }
            throw fault();
        }
    }

    // ---- the state

    static final class State {
        int[] kind = new int[48];
        int[] more = new int[48];
        TreeSet<Integer> pinned = new TreeSet<>();
        TreeSet<Integer> mended = new TreeSet<>();
        int law = 0;

        State copy() {
            State s = new State();
            s.kind = kind.clone();
            s.more = more.clone();
            s.pinned.addAll(pinned);
            s.mended.addAll(mended);
            s.law = law;
            return s;
        }
    }

    State now = new State();
    State image = null;
    StringBuilder tape = new StringBuilder();
    List<Expression[]> texts = new ArrayList<>();
    Object[] sheets = new Object[4];

    Plain() {
        texts.add(new Parser("rub 10 + more - face * 3 ; minutes 2 + more ; seen 1 + face ;").text());
    }

    static void refuse(boolean is, long with) {
        if (is) {
            throw new Answer(with);
        }
    }

    static boolean in(int v, int from, int to) {
        return from <= v && v <= to;
    }

    static long bits(TreeSet<Integer> set) {
        long b = 0;
        for (int c : set) {
            b |= 1L << c;
        }
        return b;
    }

    /** The KINDS above a KIND, itself first. */
    static List<Integer> kindsOf(int kind) {
        switch (kind) {
            case 0: return Arrays.asList(0);
            case 1: return Arrays.asList(1, 0);
            case 2: return Arrays.asList(2, 0);
            case 3: return Arrays.asList(3, 2, 0);
            case 4: return Arrays.asList(4, 0);
            default: return Arrays.asList(5, 1, 0);
        }
    }

    static TreeSet<Integer> throughPlaces(int kind, int place) {
        int neighbour = new int[] {1, 0, 3, 2, 5, 4}[place];
        TreeSet<Integer> t = new TreeSet<>();
        for (int k : kindsOf(kind)) {
            if (k == 0) {
                t.add(place);
                return t;
            }
            if (k == 2) {
                t.add(neighbour);
                return t;
            }
            if (k == 3) {
                t.add(place);
            }
            if (k == 4) {
                return t;
            }
        }
        return t;
    }

    static int face(int kind) {
        return kind == 5 ? 1 - face(1) : kind == 1 ? 1 : 0;
    }

    boolean keeps(int c, TreeSet<Integer> alsoPinned) {
        return now.kind[c] == 5 || now.pinned.contains(c) || alsoPinned.contains(c);
    }

    boolean goesThrough(int upper, int lower) {
        return upper / 6 == lower / 6 + 1 && throughPlaces(now.kind[upper], upper % 6).contains(lower % 6);
    }

    int says(int law, int part, int c, int pull) {
        TreeMap<String, Integer> n = new TreeMap<>();
        n.put("row", c / 6);
        n.put("place", c % 6);
        n.put("more", now.more[c]);
        n.put("face", face(now.kind[c]));
        n.put("mended", now.mended.contains(c) ? 1 : 0);
        n.put("pull", pull);
        return Math.max(0, Math.min(99, texts.get(law)[part].value(n)));
    }

    int rubs(int law, int c, int pull) {
        int rub = says(law, 0, c, pull);
        if (kindsOf(now.kind[c]).contains(1)) {
            rub += now.more[c];
        }
        if (now.kind[c] == 3) {
            rub *= 2;
        }
        return Math.min(999, rub);
    }

    // ---- A RUN, each LOOP asking those above it

    final class Run {
        final TreeMap<Integer, Integer> left = new TreeMap<>();
        final TreeSet<Integer> stops = new TreeSet<>();

        Run(int law, int pull, TreeSet<Integer> pins, Integer... dropped) {
            List<Integer> list = Arrays.asList(dropped);
            for (int row = 7; row >= 0; row--) {
                for (int c = 6 * row; c < 6 * row + 6; c++) {
                    boolean any = false;
                    boolean all = true;
                    int comes = -1;
                    for (int u = 0; u < 48; u++) {
                        if (goesThrough(u, c)) {
                            any = true;
                            all &= left.containsKey(u);
                            comes = Math.max(comes, left.getOrDefault(u, -1));
                        }
                    }
                    if (!keeps(c, pins)) {
                        if (list.contains(c)) {
                            left.put(c, pull);
                        } else if (any && all && comes > rubs(law, c, comes)) {
                            left.put(c, comes - rubs(law, c, comes));
                        }
                    }
                    if (any && all && !left.containsKey(c)) {
                        stops.add(c);
                    }
                }
            }
        }

        TreeSet<Integer> goes() {
            return new TreeSet<>(left.keySet());
        }

        int sum(int part) {
            int n = 0;
            for (int c : left.keySet()) {
                n += says(now.law, part, c, left.get(c));
            }
            return n;
        }
    }

    Run runOf(int pull, Integer... dropped) {
        return new Run(now.law, pull, new TreeSet<>(), dropped);
    }

    int goneBy(int pull, Integer... dropped) {
        return runOf(pull, dropped).left.size();
    }

    TreeSet<Integer> above(int c) {
        TreeSet<Integer> t = new TreeSet<>();
        for (int u = 0; u < 48; u++) {
            if (goesThrough(u, c)) {
                t.add(u);
            }
        }
        return t;
    }

    TreeSet<Integer> hanging(int c) {
        TreeSet<Integer> t = new TreeSet<>(above(c));
        for (int u : above(c)) {
            t.addAll(hanging(u));
        }
        return t;
    }

    TreeSet<Integer> looseOnes() {
        TreeSet<Integer> t = new TreeSet<>();
        for (int c = 0; c < 42; c++) {
            if (above(c).isEmpty() && !keeps(c, new TreeSet<>())) {
                t.add(c);
            }
        }
        return t;
    }

    // ---- the calls, by name

    long call(String name, int[] a) {
        try {
            return answer(name, a);
        } catch (Answer early) {
            return early.value;
        }
    }

    private long answer(String name, int[] a) {
        switch (name) {
            case "count": case "feed": case "text": case "force": case "asks": case "knit": case "row": case "told":
            case "pin":
                return lawAndLoops(name, a);
            case "hangs": case "loose": case "back":
                return hangingCalls(name, a);
            case "run": case "goes": case "left": case "most": case "column": case "line": case "reach": case "two":
            case "all":
                return running(name, a);
            case "counts": case "slip": case "wrong":
                return rows(name, a);
            case "pinned": case "mending": case "mend": case "block": case "seen": case "slack":
                return pinsAndMending(name, a);
            case "judge": case "which": case "span": case "laws": case "film":
                return rags(name, a);
            case "slips": case "odds": case "image": case "restore":
                return hands(name, a);
            default:
                return host(name, a);
        }
    }

    private long lawAndLoops(String name, int[] a) {
        switch (name) {
            case "count":
                refuse(!in(a[0], 0, 4), -2);
                return new int[] {now.pinned.size(), now.mended.size(), texts.size(), now.law, tape.length()}[a[0]];
            case "feed":
                refuse(!in(a[0], 1, 5), -2);
                for (int i = 1; i <= 5; i++) {
                    refuse(!in(a[i], 0, 255), -2);
                }
                refuse(tape.length() + a[0] > 160, -4);
                for (int i = 1; i <= a[0]; i++) {
                    tape.append((char) a[i]);
                }
                return tape.length();
            case "text": {
                refuse(texts.size() == 6, -4);
                String all = tape.toString();
                tape.setLength(0);
                texts.add(new Parser(all).text());
                return texts.size() - 1;
            }
            case "force": {
                refuse(!in(a[0], 0, texts.size() - 1), -2);
                int was = now.law;
                now.law = a[0];
                return was;
            }
            case "asks":
                refuse(!in(a[1], 0, 47), -5);
                refuse(!in(a[0], 0, 2) || !in(a[2], 0, 99), -7);
                return says(now.law, a[0], a[1], a[2]);
            case "knit": {
                refuse(!in(a[0], 0, 47), -5);
                refuse(!in(a[1], 0, 5) || !in(a[2], 0, 9), -7);
                int was = now.kind[a[0]];
                now.kind[a[0]] = a[1];
                now.more[a[0]] = a[2];
                return was;
            }
            case "row": {
                refuse(!in(a[0], 0, 7), -5);
                refuse(!in(a[1], 0, 5) || !in(a[2], 0, 9), -7);
                int n = 0;
                for (int c = 0; c < 48; c++) {
                    if (c / 6 == a[0]) {
                        n += answer("knit", new int[] {c, a[1], a[2]}) != a[1] ? 1 : 0;
                    }
                }
                return n;
            }
            case "told": {
                int c = a[0];
                refuse(!in(c, 0, 47), -5);
                refuse(!in(a[1], 0, 5), -7);
                return new long[] {now.kind[c], now.more[c], bits(throughPlaces(now.kind[c], c % 6)), face(now.kind[c]),
                    now.pinned.contains(c) ? 1 : 0, now.mended.contains(c) ? 1 : 0}[a[1]];
            }
            default: // pin
                refuse(!in(a[0], 0, 47), -5);
                refuse(!in(a[1], 0, 1), -7);
                return (a[1] == 1 ? !now.pinned.add(a[0]) : now.pinned.remove(a[0])) ? 1 : 0;
        }
    }

    private long hangingCalls(String name, int[] a) {
        switch (name) {
            case "hangs": {
                refuse(!in(a[0], 0, 47) || !in(a[1], 0, 2), NO);
                if (a[1] == 0) {
                    return bits(above(a[0]));
                }
                if (a[1] == 1) {
                    return bits(hanging(a[0]));
                }
                TreeSet<Integer> t = new TreeSet<>();
                for (int c = 0; c < 48; c++) {
                    if (hanging(c).contains(a[0])) {
                        t.add(c);
                    }
                }
                return bits(t);
            }
            case "loose":
                return bits(looseOnes());
            default: // back
                refuse(!in(a[0], 0, 47), -5);
                return 1 + hanging(a[0]).size();
        }
    }

    private long running(String name, int[] a) {
        switch (name) {
            case "run": {
                refuse(!in(a[0], 0, 47), -5);
                refuse(!in(a[1], 0, 99) || !in(a[2], 0, 3), -7);
                Run r = runOf(a[1], a[0]);
                int lowest = r.left.isEmpty() ? -1 : r.left.firstKey() / 6;
                return a[2] == 0 ? r.left.size() : a[2] == 1 ? lowest : r.sum(a[2] - 1);
            }
            case "goes": {
                refuse(!in(a[0], 0, 47) || !in(a[1], 0, 99) || !in(a[2], 0, 1), NO);
                Run r = runOf(a[1], a[0]);
                return bits(a[2] == 0 ? r.goes() : r.stops);
            }
            case "left":
                refuse(!in(a[0], 0, 47) || !in(a[2], 0, 47), -5);
                refuse(!in(a[1], 0, 99), -7);
                return runOf(a[1], a[0]).left.getOrDefault(a[2], -1);
            case "most": {
                refuse(!in(a[0], 0, 99) || !in(a[1], 0, 1), -2);
                int best = 0;
                for (int c = 47; c >= 0; c--) {
                    best = goneBy(a[0], c) >= goneBy(a[0], best) ? c : best;
                }
                return a[1] == 0 ? best : goneBy(a[0], best);
            }
            case "column": {
                int p = a[0];
                refuse(!in(p, 0, 5), -5);
                refuse(!in(a[1], 0, 99) || !in(a[2], 0, 1), -7);
                TreeSet<Integer> t = runOf(a[1], p, p + 6, p + 12, p + 18, p + 24, p + 30, p + 36, p + 42).goes();
                int others = 0;
                for (int c : t) {
                    others += c % 6 != p ? 1 : 0;
                }
                return a[2] == 0 ? t.size() : others;
            }
            case "line":
                refuse(!in(a[0], 0, 47), -5);
                refuse(!in(a[1], 0, 48), -7);
                for (int p = 0; p < 100; p++) {
                    refuse(goneBy(p, a[0]) > a[1], p);
                }
                return -1;
            case "reach":
                refuse(!in(a[0], 0, 47) || !in(a[1], 0, 47), -5);
                for (int p = 0; p < 100; p++) {
                    refuse(runOf(p, a[0]).left.containsKey(a[1]), p);
                }
                return -1;
            case "two":
                refuse(!in(a[0], 0, 99) || !in(a[1], 0, 2), -2);
                return two(a[0], a[1]);
            default: // all
                refuse(!in(a[0], 0, 47), -5);
                for (int p = 0; p < 100; p++) {
                    boolean holds = true;
                    for (int q = p; q < 100 && holds; q++) {
                        holds = goneBy(q, a[0]) >= goneBy(99, a[0]);
                    }
                    refuse(holds, p);
                }
                throw new IllegalStateException();
        }
    }

    private long two(int pull, int what) {
        int best = -1;
        int x = 0;
        int y = 0;
        for (int a = 0; a < 48; a++) {
            for (int b = a + 1; b < 48; b++) {
                int n = goneBy(pull, a, b);
                if (n > best) {
                    best = n;
                    x = a;
                    y = b;
                }
            }
        }
        TreeSet<Integer> fromEither = new TreeSet<>(runOf(pull, x).left.keySet());
        fromEither.addAll(runOf(pull, y).left.keySet());
        return what == 0 ? 100 * x + y : what == 1 ? best : best - fromEither.size();
    }

    private int placesBelow(int r) {
        TreeSet<Integer> t = new TreeSet<>();
        for (int p = 0; p < 6 && r > 0; p++) {
            t.addAll(throughPlaces(now.kind[6 * r + p], p));
        }
        return t.size();
    }

    private long rows(String name, int[] a) {
        switch (name) {
            case "counts": {
                refuse(!in(a[0], 0, 7), -5);
                refuse(!in(a[1], 0, 2), -7);
                int borne = 0;
                int odd = 0;
                for (int p = 0; p < 6; p++) {
                    int c = 6 * a[0] + p;
                    borne += above(c).isEmpty() ? 0 : 1;
                    odd += throughPlaces(now.kind[c], p).size() == 1 ? 0 : 1;
                }
                return a[1] == 0 ? borne : a[1] == 1 ? placesBelow(a[0]) : odd;
            }
            case "slip": {
                List<Integer> told = numbers(a[0], 8);
                for (int r = 1; r < 8; r++) {
                    refuse(told.get(r) != placesBelow(r), r);
                }
                return -1;
            }
            default: { // wrong
                int rows = 0;
                for (int c : looseOnes()) {
                    rows |= 1 << c / 6;
                }
                return rows;
            }
        }
    }

    private long pinsAndMending(String name, int[] a) {
        switch (name) {
            case "pinned":
                refuse(!in(a[0], 0, 47), -5);
                refuse(!in(a[1], 0, 99) || !in(a[2], 0, 48) || !in(a[3], 0, 2), -7);
                return pinned(a[0], a[1], a[2], a[3]);
            case "mending": {
                refuse(!in(a[0], 0, 47), -5);
                refuse(!in(a[1], 0, 99) || !in(a[2], 0, 1), -7);
                Run r = runOf(a[1], a[0]);
                refuse(r.left.isEmpty(), a[2] == 0 ? -1 : 0);
                List<Integer> minutes = Arrays.asList(r.sum(1), 24 * (8 - r.left.firstKey() / 6), 50 + r.left.size());
                int least = java.util.Collections.min(minutes);
                return a[2] == 0 ? minutes.indexOf(least) : least;
            }
            case "mend": {
                refuse(!in(a[0], 0, 47), -5);
                refuse(!in(a[1], 0, 99), -7);
                int ahead = now.mended.size();
                now.mended.addAll(runOf(a[1], a[0]).goes());
                return now.mended.size() - ahead;
            }
            case "block": {
                int n = now.mended.size();
                now.mended.clear();
                return n;
            }
            case "seen": {
                TreeSet<Integer> t = new TreeSet<>();
                for (int c : now.mended) {
                    boolean like = c % 6 != 0 && face(now.kind[c - 1]) == face(now.kind[c]);
                    like |= c % 6 != 5 && face(now.kind[c + 1]) == face(now.kind[c]);
                    if (!like) {
                        t.add(c);
                    }
                }
                return bits(t);
            }
            default: { // slack
                int c = a[0];
                refuse(!in(c, 0, 47), -5);
                refuse(!in(a[1], 0, 99), -7);
                List<Integer> others = new ArrayList<>();
                for (int o = 0; o < 48; o++) {
                    if (o / 6 == c / 6 && o != c) {
                        others.add(o);
                    }
                }
                others.sort((o, q) -> Math.abs(o - c) != Math.abs(q - c) ? Math.abs(o - c) - Math.abs(q - c) : o - q);
                int sum = 0;
                refuse(sum >= a[1], 0);
                for (int i = 0; i < others.size(); i++) {
                    sum += now.more[others.get(i)];
                    refuse(sum >= a[1], i + 1);
                }
                return -1;
            }
        }
    }

    private long pinned(int c, int pull, int n, int what) {
        refuse(goneBy(pull, c) <= n, what == 0 ? 0 : -1);
        for (int a = 0; a < 48; a++) {
            if (a != c && new Run(now.law, pull, new TreeSet<>(Arrays.asList(a)), c).left.size() <= n) {
                return what == 0 ? 1 : what == 1 ? a : -1;
            }
        }
        for (int a = 0; a < 48; a++) {
            for (int b = a + 1; b < 48; b++) {
                boolean may = a != c && b != c;
                if (may && new Run(now.law, pull, new TreeSet<>(Arrays.asList(a, b)), c).left.size() <= n) {
                    return what == 0 ? 2 : what == 1 ? a : b;
                }
            }
        }
        return -1;
    }

    // ---- SHEETS, as Java's own rows of numbers

    private List<Integer> numbers(int s, int size) {
        refuse(!in(s, 0, 3), -2);
        refuse(sheets[s] == null, -11);
        List<Integer> all = new ArrayList<>();
        for (int i = 0; i < java.lang.reflect.Array.getLength(sheets[s]); i++) {
            all.add(java.lang.reflect.Array.getInt(sheets[s], i));
        }
        refuse(all.size() != size, -2);
        return all;
    }

    private static int firstOther(List<Integer> told, Run r) {
        for (int c = 0; c < 48; c++) {
            if (told.get(c) != (r.left.containsKey(c) ? 1 : 0)) {
                return c;
            }
        }
        return -1;
    }

    private long rags(String name, int[] a) {
        if (name.equals("film")) {
            refuse(!in(a[0], 0, 3), -2);
            refuse(!in(a[1], 0, 47), -5);
            refuse(!in(a[2], 0, 99), -7);
            int[] film = new int[48];
            for (int c : runOf(a[2], a[1]).goes()) {
                film[c] = 1;
            }
            sheets[a[0]] = film;
            return 48;
        }
        if (name.equals("which")) {
            try {
                numbers(a[0], 48);
            } catch (Answer refused) {
                return NO;
            }
            refuse(!in(a[1], 0, 99), NO);
            TreeSet<Integer> t = new TreeSet<>();
            for (int c = 0; c < 48; c++) {
                if (firstOther(numbers(a[0], 48), runOf(a[1], c)) == -1) {
                    t.add(c);
                }
            }
            return bits(t);
        }
        List<Integer> told = numbers(a[0], 48);
        refuse(!in(a[1], 0, 47), -5);
        switch (name) {
            case "judge":
                refuse(!in(a[2], 0, 99), -7);
                return firstOther(told, runOf(a[2], a[1]));
            case "span": {
                refuse(!in(a[2], 0, 1), -7);
                TreeSet<Integer> pulls = new TreeSet<>();
                for (int p = 0; p < 100; p++) {
                    if (firstOther(told, runOf(p, a[1])) == -1) {
                        pulls.add(p);
                    }
                }
                return pulls.isEmpty() ? -1 : a[2] == 0 ? pulls.first() : pulls.last();
            }
            default: { // laws
                refuse(!in(a[2], 0, 99), -7);
                TreeSet<Integer> t = new TreeSet<>();
                for (int law = 0; law < texts.size(); law++) {
                    if (firstOther(told, new Run(law, a[2], new TreeSet<>(), a[1])) == -1) {
                        t.add(law);
                    }
                }
                return bits(t);
            }
        }
    }

    private int missed(int seed, int c, int pull, int h) {
        BigInteger lot = BigInteger.valueOf(seed + 1);
        int n = 0;
        for (int went : runOf(pull, c).goes()) {
            lot = lot.multiply(BigInteger.valueOf(48271)).mod(BigInteger.valueOf(2147483647));
            n += went >= 0 && lot.mod(BigInteger.valueOf(100)).intValue() < h ? 1 : 0;
        }
        return n;
    }

    private long hands(String name, int[] a) {
        switch (name) {
            case "slips":
                refuse(!in(a[1], 0, 47), -5);
                refuse(!in(a[0], 0, 99999) || !in(a[2], 0, 99) || !in(a[3], 0, 100), -7);
                return missed(a[0], a[1], a[2], a[3]);
            case "odds": {
                refuse(!in(a[0], 0, 99999) || !in(a[1], 1, 50) || !in(a[2], 0, 47), NO);
                refuse(!in(a[3], 0, 99) || !in(a[4], 0, 100) || !in(a[5], 0, 1), NO);
                int n = 0;
                for (int i = 0; i < a[1]; i++) {
                    n += missed(a[0] + i, a[2], a[3], a[4]) == 0 ? 1 : 0;
                }
                int gcd = BigInteger.valueOf(n).gcd(BigInteger.valueOf(a[1])).intValue();
                return (a[5] == 0 ? n : a[1]) / gcd;
            }
            case "image":
                image = now.copy();
                return now.pinned.size();
            default: // restore
                refuse(image == null, -3);
                now = image.copy();
                return now.pinned.size();
        }
    }

    private long host(String name, int[] a) {
        refuse(name.equals("taken") ? !in(a[1], 0, 6) : !in(a[0], 0, 3), -2);
        switch (name) {
            case "sheet":
                refuse(!in(a[1], -1, 2), -2);
                if (a[1] == -1) {
                    sheets[a[0]] = null;
                    return 1;
                }
                refuse(a[2] > 48, -2);
                refuse(a[2] < 0, -14);
                sheets[a[0]] = a[1] == 0 ? new byte[a[2]] : a[1] == 1 ? new short[a[2]] : (Object) new int[a[2]];
                return 1;
            case "cell": {
                Object s = sheets[a[0]];
                try {
                    if (s instanceof byte[]) {
                        ((byte[]) s)[a[1]] = (byte) a[2];
                    } else if (s instanceof short[]) {
                        ((short[]) s)[a[1]] = (short) a[2];
                    } else {
                        ((int[]) s)[a[1]] = a[2];
                    }
                } catch (NullPointerException e) {
                    return -11;
                } catch (IndexOutOfBoundsException e) {
                    return -12;
                }
                return 1;
            }
            case "copy":
                refuse(!in(a[2], 0, 3), -2);
                try {
                    System.arraycopy(sheets[a[0]], a[1], sheets[a[2]], a[3], a[4]);
                } catch (NullPointerException e) {
                    return -11;
                } catch (ArrayStoreException e) {
                    return -13;
                } catch (IndexOutOfBoundsException e) {
                    return -12;
                }
                return a[4];
            case "knits": {
                refuse(!in(a[1], 0, 2) || !in(a[3], 0, 16), -2);
                Object s = sheets[a[0]];
                refuse(s == null, -11);
                refuse(s.getClass() != new Class<?>[] {byte[].class, short[].class, int[].class}[a[1]], -13);
                int n = 0;
                try {
                    for (int k = 0; k < a[3]; k++) {
                        int at = a[2] + 3 * k;
                        int c = java.lang.reflect.Array.getInt(s, at);
                        int kind = java.lang.reflect.Array.getInt(s, at + 1);
                        int more = java.lang.reflect.Array.getInt(s, at + 2);
                        n += call("knit", new int[] {c, kind, more}) >= 0 ? 1 : 0;
                    }
                } catch (IndexOutOfBoundsException e) {
                    return -12;
                }
                return n;
            }
            default: { // taken
                int i = a[0];
                refuse(!in(i, 0, 55), -12);
                if (i < 48) {
                    refuse(!kindsOf(now.kind[i]).contains(a[1]), -13);
                    return i;
                }
                TreeSet<Integer> places = new TreeSet<>();
                for (int c : now.pinned) {
                    if (c / 6 == i - 48) {
                        places.add(c % 6);
                    }
                }
                refuse(places.isEmpty(), -11);
                refuse(a[1] != 6, -13);
                return bits(places);
            }
        }
    }
}
