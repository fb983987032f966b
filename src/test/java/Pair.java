import java.util.Arrays;
import java.util.NoSuchElementException;

/** The class and Slow side by side: each call goes to both, and all answers and all that can be seen must be alike. */
final class Pair {
    static final String[] NAMES = {"sign", "end", "ring", "horses", "plan", "rule", "prizes", "fence", "horse", "raise",
        "move", "allow", "sheet", "jump", "strides", "calm", "fear", "falls", "poles", "cuts", "curve", "quick", "sure", "ride",
        "look", "told", "show", "undo", "round", "table", "place", "beat", "law", "mean", "last", "buy", "game", "lot", "share",
        "through", "built", "fair", "parts", "riders", "wind", "keep", "again", "count", "row"};
    private static final long THROWN = Long.MIN_VALUE;

    private final FourAPole x = new FourAPole();
    private final Slow slow = new Slow();

    /** THE TEXT becomes these signs. */
    void put(String signs) {
        Check.text(x, signs);
        slow.end(0);
        for (int i = 0; i < signs.length(); i += 4) {
            int v = 0;
            for (int j = i; j < i + 4; j++) {
                v = v << 8 | (j < signs.length() ? signs.charAt(j) & 255 : 0);
            }
            slow.sign(v);
        }
        slow.end(signs.length());
    }

    /** What both answered, or what Slow answered if they did not agree. */
    long call(String what, String name, int... numbers) {
        int[] a = Arrays.copyOf(numbers, 4);
        long want = callSlow(name, a);
        Check.due(what, callFast(name, a), want);
        for (int i = 0; i < 9; i++) {
            same(what, " then count", i, x.count(i), slow.count(i));
        }
        for (int i = 0; i < slow.count(6) && i < x.count(6); i++) {
            same(what, " then row", i, x.row(i), slow.row(i));
        }
        return want;
    }

    private static void same(String what, String then, int i, long got, long want) {
        Check.due(got == want ? what : what + then + "(" + i + ")", got, want);
    }

    int count(int what) {
        return slow.count(what);
    }

    private long callFast(String name, int[] a) {
        try {
            return fast(name, a);
        } catch (NoSuchElementException e) {
            return THROWN;
        }
    }

    private long callSlow(String name, int[] a) {
        try {
            return slowly(name, a);
        } catch (NoSuchElementException e) {
            return THROWN;
        }
    }

    private long fast(String name, int[] a) {
        return switch (name) {
            case "sign" -> x.sign(a[0]);
            case "end" -> x.end(a[0]) ? 1 : 0;
            case "ring" -> x.ring();
            case "horses" -> x.horses();
            case "plan" -> x.plan();
            case "rule" -> x.rule();
            case "prizes" -> x.prizes();
            case "fence" -> x.fence(a[0], a[1]);
            case "horse" -> x.horse(a[0], a[1]);
            case "raise" -> x.raise(a[0], a[1]);
            case "move" -> x.move(a[0], a[1]);
            case "allow" -> x.allow(a[0]);
            case "sheet" -> x.sheet(a[0], a[1], a[2], a[3]);
            case "jump" -> x.jump(a[0], a[1], a[2]);
            case "strides" -> x.strides(a[0], a[1]);
            case "calm" -> x.calm(a[0], a[1]);
            case "fear" -> x.fear(a[0], a[1]);
            case "falls" -> x.falls(a[0], a[1]);
            case "poles" -> x.poles(a[0], a[1], a[2]);
            case "cuts" -> x.cuts(a[0], a[1]);
            case "curve" -> x.curve(a[0], a[1]);
            case "quick" -> x.quick(a[0], a[1]);
            case "sure" -> x.sure(a[0]);
            case "ride" -> x.ride(a[0], a[1], a[2], a[3]);
            case "look" -> x.look(a[0], a[1], a[2]);
            case "told" -> x.told(a[0], a[1], a[2], a[3]);
            case "show" -> x.show();
            case "undo" -> x.undo();
            case "round" -> x.round(a[0], a[1]);
            case "table" -> x.table();
            case "place" -> x.place(a[0], a[1]);
            case "beat" -> x.beat(a[0]);
            case "law" -> x.law(a[0], a[1]);
            case "mean" -> x.mean(a[0], a[1]);
            case "last" -> x.last(a[0]);
            case "buy" -> x.buy();
            case "game" -> x.game();
            case "lot" -> x.lot();
            case "share" -> x.share(a[0]);
            case "through" -> x.through(a[0], a[1]);
            case "built" -> x.built(a[0], a[1], a[2]);
            case "fair" -> x.fair(a[0]);
            case "parts" -> x.parts();
            case "riders" -> x.riders(a[0], a[1]);
            case "wind" -> x.wind(a[0], a[1], a[2], a[3]);
            case "keep" -> x.keep(a[0]) ? 1 : 0;
            case "again" -> x.again(a[0]) ? 1 : 0;
            case "count" -> x.count(a[0]);
            default -> x.row(a[0]);
        };
    }

    private long slowly(String name, int[] a) {
        return switch (name) {
            case "sign" -> slow.sign(a[0]);
            case "end" -> slow.end(a[0]) ? 1 : 0;
            case "ring" -> slow.ring();
            case "horses" -> slow.horses();
            case "plan" -> slow.plan();
            case "rule" -> slow.rule();
            case "prizes" -> slow.prizes();
            case "fence" -> slow.fence(a[0], a[1]);
            case "horse" -> slow.horse(a[0], a[1]);
            case "raise" -> slow.raise(a[0], a[1]);
            case "move" -> slow.move(a[0], a[1]);
            case "allow" -> slow.allow(a[0]);
            case "sheet" -> slow.sheet(a[0], a[1], a[2], a[3]);
            case "jump" -> slow.jump(a[0], a[1], a[2]);
            case "strides" -> slow.strides(a[0], a[1]);
            case "calm" -> slow.calm(a[0], a[1]);
            case "fear" -> slow.fear(a[0], a[1]);
            case "falls" -> slow.falls(a[0], a[1]);
            case "poles" -> slow.poles(a[0], a[1], a[2]);
            case "cuts" -> slow.cuts(a[0], a[1]);
            case "curve" -> slow.curve(a[0], a[1]);
            case "quick" -> slow.quick(a[0], a[1]);
            case "sure" -> slow.sure(a[0]);
            case "ride" -> slow.ride(a[0], a[1], a[2], a[3]);
            case "look" -> slow.look(a[0], a[1], a[2]);
            case "told" -> slow.told(a[0], a[1], a[2], a[3]);
            case "show" -> slow.show();
            case "undo" -> slow.undo();
            case "round" -> slow.round(a[0], a[1]);
            case "table" -> slow.table();
            case "place" -> slow.place(a[0], a[1]);
            case "beat" -> slow.beat(a[0]);
            case "law" -> slow.law(a[0], a[1]);
            case "mean" -> slow.mean(a[0], a[1]);
            case "last" -> slow.last(a[0]);
            case "buy" -> slow.buy();
            case "game" -> slow.game();
            case "lot" -> slow.lot();
            case "share" -> slow.share(a[0]);
            case "through" -> slow.through(a[0], a[1]);
            case "built" -> slow.built(a[0], a[1], a[2]);
            case "fair" -> slow.fair(a[0]);
            case "parts" -> slow.parts();
            case "riders" -> slow.riders(a[0], a[1]);
            case "wind" -> slow.wind(a[0], a[1], a[2], a[3]);
            case "keep" -> slow.keep(a[0]) ? 1 : 0;
            case "again" -> slow.again(a[0]) ? 1 : 0;
            case "count" -> slow.count(a[0]);
            default -> slow.row(a[0]);
        };
    }
}
