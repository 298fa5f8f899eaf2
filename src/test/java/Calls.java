import java.util.Arrays;
import java.util.List;

/** The calls of the face by their names. */
final class Calls {
    static final List<String> NAMES = Arrays.asList(
        "count", "feed", "text", "force", "asks", "knit", "row", "told", "pin", "hangs", "loose", "back", "run", "goes",
        "left", "most", "column", "line", "reach", "two", "all", "counts", "slip", "wrong", "pinned", "mending", "mend",
        "block", "seen", "slack", "judge", "which", "span", "laws", "film", "slips", "odds", "image", "restore", "sheet",
        "cell", "copy", "knits", "taken");
    private static final int[] PARAMETERS = {
        1, 6, 0, 1, 3, 3, 3, 2, 2, 2, 0, 1, 3, 3, 3, 2, 3, 2, 2, 2, 1, 2, 1, 0, 4, 3, 2, 0, 0, 2, 3, 2, 3, 3, 3, 4, 6, 0, 0, 3,
        3, 5, 4, 2};

    private Calls() {
    }

    static int parametersOf(String name) {
        return PARAMETERS[NAMES.indexOf(name)];
    }

    static long answer(StitchLetFall x, String name, int... a) {
        if (a.length != parametersOf(name)) {
            throw new IllegalArgumentException(name + " with " + a.length + " numbers");
        }
        switch (name) {
            case "count": return x.count(a[0]);
            case "feed": return x.feed(a[0], a[1], a[2], a[3], a[4], a[5]);
            case "text": return x.text();
            case "force": return x.force(a[0]);
            case "asks": return x.asks(a[0], a[1], a[2]);
            case "knit": return x.knit(a[0], a[1], a[2]);
            case "row": return x.row(a[0], a[1], a[2]);
            case "told": return x.told(a[0], a[1]);
            case "pin": return x.pin(a[0], a[1]);
            case "hangs": return x.hangs(a[0], a[1]);
            case "loose": return x.loose();
            case "back": return x.back(a[0]);
            case "run": return x.run(a[0], a[1], a[2]);
            case "goes": return x.goes(a[0], a[1], a[2]);
            case "left": return x.left(a[0], a[1], a[2]);
            case "most": return x.most(a[0], a[1]);
            case "column": return x.column(a[0], a[1], a[2]);
            case "line": return x.line(a[0], a[1]);
            case "reach": return x.reach(a[0], a[1]);
            case "two": return x.two(a[0], a[1]);
            case "all": return x.all(a[0]);
            case "counts": return x.counts(a[0], a[1]);
            case "slip": return x.slip(a[0]);
            case "wrong": return x.wrong();
            case "pinned": return x.pinned(a[0], a[1], a[2], a[3]);
            default: return laterAnswer(x, name, a);
        }
    }

    private static long laterAnswer(StitchLetFall x, String name, int[] a) {
        switch (name) {
            case "mending": return x.mending(a[0], a[1], a[2]);
            case "mend": return x.mend(a[0], a[1]);
            case "block": return x.block();
            case "seen": return x.seen();
            case "slack": return x.slack(a[0], a[1]);
            case "judge": return x.judge(a[0], a[1], a[2]);
            case "which": return x.which(a[0], a[1]);
            case "span": return x.span(a[0], a[1], a[2]);
            case "laws": return x.laws(a[0], a[1], a[2]);
            case "film": return x.film(a[0], a[1], a[2]);
            case "slips": return x.slips(a[0], a[1], a[2], a[3]);
            case "odds": return x.odds(a[0], a[1], a[2], a[3], a[4], a[5]);
            case "image": return x.image();
            case "restore": return x.restore();
            case "sheet": return x.sheet(a[0], a[1], a[2]);
            case "cell": return x.cell(a[0], a[1], a[2]);
            case "copy": return x.copy(a[0], a[1], a[2], a[3], a[4]);
            case "knits": return x.knits(a[0], a[1], a[2], a[3]);
            case "taken": return x.taken(a[0], a[1]);
            default: throw new IllegalStateException(name);
        }
    }
}
