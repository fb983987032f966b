import java.util.NoSuchElementException;
import java.util.Random;

/** The same calls, drawn by fixed seeds, on the class and on Slow: all answers and all that can be seen must be alike. */
public final class RandomRunsTest {
    private static final int RUNS = 400;
    private static final int CALLS = 300;
    private static final String[] NAMES = {"sign", "end", "ring", "horses", "plan", "rule", "prizes", "fence", "horse", "raise",
        "move", "allow", "sheet", "jump", "strides", "calm", "fear", "falls", "poles", "cuts", "curve", "quick", "sure", "ride",
        "look", "told", "show", "undo", "round", "table", "place", "beat", "law", "mean", "last", "buy", "game", "lot", "share",
        "through", "built", "fair", "parts", "riders", "wind", "keep", "again", "count", "row"};
    private static final int[] WILD = {Integer.MIN_VALUE, -100, -2, -1, 9, 12, 13, 100, 1000, 10001, 65536, Integer.MAX_VALUE};

    private static Random random;
    private static FourAPole x;
    private static Slow slow;

    private RandomRunsTest() {
    }

    public static void main(String[] args) {
        for (int run = 0; run < RUNS; run++) {
            random = new Random(run);
            x = new FourAPole();
            slow = new Slow();
            int mostFences = run % 40 == 0 ? 5 : 4;
            begin(mostFences);
            for (int i = 0; i < CALLS; i++) {
                step(run, mostFences);
            }
        }
        Check.end("RandomRunsTest");
    }

    private static void begin(int mostFences) {
        if (random.nextInt(8) > 0) {
            put(ringText(1 + random.nextInt(mostFences)));
            compare("ring", x.ring(), slow.ring());
        }
        if (random.nextInt(8) > 0) {
            put(horsesText(1 + random.nextInt(6)));
            compare("horses", x.horses(), slow.horses());
        }
        for (int i = random.nextInt(4); i > 0; i--) {
            put(letters("abcdefgh", slow.count(0)));
            compare("plan", x.plan(), slow.plan());
        }
    }

    private static void step(int run, int mostFences) {
        String name = NAMES[random.nextInt(NAMES.length)];
        int[] a = new int[4];
        for (int i = 0; i < 4; i++) {
            a[i] = random.nextInt(25) == 0 ? WILD[random.nextInt(WILD.length)] : random.nextInt(4);
        }
        widen(name, a);
        String signs = textFor(name, mostFences);
        if (signs != null) {
            put(signs);
        }
        String what = "run " + run + " " + name + "(" + a[0] + ", " + a[1] + ", " + a[2] + ", " + a[3] + ")"
            + (signs == null ? "" : " with " + signs);
        compare(what, callFast(name, a), callSlow(name, a));
        for (int i = 0; i < 9; i++) {
            compare(what + " then count(" + i + ")", x.count(i), slow.count(i));
        }
        for (int i = 0; i < slow.count(6) && i < x.count(6); i++) {
            compare(what + " then row(" + i + ")", x.row(i), slow.row(i));
        }
    }

    private static void compare(String what, long got, long want) {
        Check.due(what, got, want);
    }

    /** Numbers that reach all of a call's inputs, mostly allowed ones. */
    private static void widen(String name, int[] a) {
        boolean wild = random.nextInt(12) == 0;
        if (wild) {
            return;
        }
        switch (name) {
            case "sign", "ride", "look" -> {
                a[0] = name.equals("sign") ? random.nextInt() : a[0];
                a[2] = name.equals("look") ? random.nextInt() : a[2];
                a[3] = random.nextInt();
            }
            case "end" -> a[0] = random.nextInt(90) - 4;
            case "raise" -> a[1] = random.nextInt(10);
            case "move" -> a[1] = 10 + random.nextInt(90);
            case "allow" -> a[0] = random.nextInt(random.nextBoolean() ? 400 : 10000);
            case "sheet" -> {
                a[1] = random.nextInt(11) - 1;
                a[2] = random.nextInt(3) == 0 ? random.nextInt() : random.nextInt(12) - 2;
                a[3] = random.nextInt(3) == 0 ? random.nextInt() : random.nextInt(5) - 2;
            }
            case "jump" -> a[2] = random.nextInt(8);
            case "curve" -> a[1] = random.nextInt(600);
            case "quick" -> a[1] = random.nextInt(300);
            case "told" -> {
                a[0] = random.nextInt(6);
                a[2] = random.nextInt(3) * 4 + random.nextInt(2);
                a[3] = random.nextInt(random.nextBoolean() ? 5 : 500);
            }
            case "round" -> {
                a[0] = random.nextInt(12);
                a[1] = random.nextInt(6);
            }
            case "place" -> {
                a[0] = random.nextInt(10);
                a[1] = random.nextInt(500);
            }
            case "beat" -> a[0] = random.nextInt(13);
            case "law" -> {
                a[0] = 1 + random.nextInt(100);
                a[1] = random.nextInt(10);
            }
            case "share" -> a[0] = 1 + random.nextInt(5);
            case "through", "built" -> {
                a[1] = random.nextInt(10001);
                a[2] = random.nextInt(7);
            }
            case "riders" -> {
                a[0] = random.nextInt(6);
                a[1] = random.nextInt(6);
            }
            case "wind" -> {
                a[2] = random.nextInt(7);
                a[1] = random.nextInt(a[2] + 1);
                a[3] = random.nextInt(101);
            }
            case "count", "row" -> a[0] = random.nextInt(11);
            default -> {
            }
        }
    }

    private static String textFor(String name, int mostFences) {
        String signs = switch (name) {
            case "ring" -> random.nextInt(5) > 0 ? null : ringText(1 + random.nextInt(mostFences));
            case "horses" -> horsesText(1 + random.nextInt(2));
            case "plan" -> letters("abcdefgh", slow.count(0));
            case "rule" -> ruleText();
            case "prizes" -> prizesText();
            case "show" -> showText();
            case "game" -> letters("012", 1 + random.nextInt(3));
            case "lot" -> letters("012", 2 + random.nextInt(2));
            case "share" -> letters("012", 2);
            default -> null;
        };
        return signs != null && random.nextInt(4) == 0 ? spoil(signs) : signs;
    }

    private static String spoil(String signs) {
        int at = random.nextInt(signs.length() + 1);
        String some = "0159;,@uwdlhscpxfky+-*/<>=()rtx:ai" + (char) 0 + (char) 200;
        String more = letters(some, 1 + random.nextInt(2));
        String spoilt = switch (random.nextInt(4)) {
            case 0 -> signs.substring(0, at);
            case 1 -> signs.substring(0, at) + more + signs.substring(at);
            case 2 -> signs + ";" + signs + "," + signs;
            default -> signs.substring(0, at) + more + signs.substring(Math.min(signs.length(), at + 1));
        };
        return spoilt.substring(0, Math.min(80, spoilt.length()));
    }

    private static String letters(String from, int n) {
        StringBuilder s = new StringBuilder();
        for (int i = 0; i < n; i++) {
            s.append(from.charAt(random.nextInt(from.length())));
        }
        return s.toString();
    }

    private static String ringText(int n) {
        StringBuilder s = new StringBuilder();
        for (int i = 0; i < n; i++) {
            s.append(i > 0 ? ";" : "").append(letters("uwdl", 1)).append(random.nextInt(10)).append('@').append(10 + random.nextInt(90));
        }
        return s.toString();
    }

    private static String horsesText(int n) {
        StringBuilder s = new StringBuilder();
        for (int i = 0; i < n; i++) {
            s.append(i > 0 ? ";" : "").append(3 + random.nextInt(7)).append(letters("0123456789", 5));
        }
        return s.toString();
    }

    private static String prizesText() {
        StringBuilder s = new StringBuilder();
        int n = 1 + random.nextInt(7);
        for (int i = 0; i < n; i++) {
            s.append(i > 0 ? "," : "").append(random.nextInt(100));
        }
        return s.toString();
    }

    private static String ruleText() {
        if (random.nextInt(3) == 0) {
            return letters("hscpxfky0129+-*/<>=()", random.nextInt(12));
        }
        String e = expression(random.nextInt(5), true);
        return e.substring(0, Math.min(80, e.length()));
    }

    private static String expression(int depth, boolean mayCompare) {
        StringBuilder s = new StringBuilder();
        boolean compared = !mayCompare;
        int n = 1 + random.nextInt(4);
        for (int i = 0; i < n; i++) {
            if (i > 0) {
                String sign = letters(compared ? "+-*/" : "+-*/<>=", 1);
                compared |= "<>=".contains(sign);
                s.append(sign);
            }
            s.append(letters("-", random.nextInt(6) == 0 ? 1 + random.nextInt(2) : 0));
            int kind = random.nextInt(5);
            if (kind == 0 && depth > 0) {
                s.append('(').append(expression(depth - 1, true)).append(')');
            } else if (kind < 3) {
                s.append(letters("hscpxfky", 1));
            } else {
                s.append(random.nextInt(random.nextBoolean() ? 10 : 1000));
            }
        }
        return s.toString();
    }

    private static String showText() {
        StringBuilder s = new StringBuilder();
        int n = random.nextInt(6);
        for (int i = 0; i < n; i++) {
            s.append(i > 0 ? ";" : "");
            switch (random.nextInt(3)) {
                case 0 -> s.append('r').append(letters("012", 3)).append('*').append(random.nextInt(10));
                case 1 -> s.append('t').append(letters("012", 2)).append(':').append(random.nextInt(20)).append('+')
                    .append(random.nextInt(10000));
                default -> s.append('x');
            }
        }
        return s.toString();
    }

    private static void put(String signs) {
        Check.text(x, signs);
        slow.end(0);
        for (int i = 0; i < signs.length(); i += 4) {
            int v = 0;
            for (int j = i; j < i + 4; j++) {
                v = v << 8 | (j < signs.length() ? signs.charAt(j) & 255 : 0);
            }
            slow.sign(v);
        }
        slow.end(signs.length());
    }

    private static final long THROWN = Long.MIN_VALUE;

    private static long callFast(String name, int[] a) {
        try {
            return fast(name, a);
        } catch (NoSuchElementException e) {
            return THROWN;
        }
    }

    private static long callSlow(String name, int[] a) {
        try {
            return slowly(name, a);
        } catch (NoSuchElementException e) {
            return THROWN;
        }
    }

    private static long fast(String name, int[] a) {
        return switch (name) {
            case "sign" -> x.sign(a[0]);
            case "end" -> x.end(a[0]) ? 1 : 0;
            case "ring" -> x.ring();
            case "horses" -> x.horses();
            case "plan" -> x.plan();
            case "rule" -> x.rule();
            case "prizes" -> x.prizes();
            case "fence" -> x.fence(a[0], a[1]);
            case "horse" -> x.horse(a[0], a[1]);
            case "raise" -> x.raise(a[0], a[1]);
            case "move" -> x.move(a[0], a[1]);
            case "allow" -> x.allow(a[0]);
            case "sheet" -> x.sheet(a[0], a[1], a[2], a[3]);
            case "jump" -> x.jump(a[0], a[1], a[2]);
            case "strides" -> x.strides(a[0], a[1]);
            case "calm" -> x.calm(a[0], a[1]);
            case "fear" -> x.fear(a[0], a[1]);
            case "falls" -> x.falls(a[0], a[1]);
            case "poles" -> x.poles(a[0], a[1], a[2]);
            case "cuts" -> x.cuts(a[0], a[1]);
            case "curve" -> x.curve(a[0], a[1]);
            case "quick" -> x.quick(a[0], a[1]);
            case "sure" -> x.sure(a[0]);
            case "ride" -> x.ride(a[0], a[1], a[2], a[3]);
            case "look" -> x.look(a[0], a[1], a[2]);
            case "told" -> x.told(a[0], a[1], a[2], a[3]);
            case "show" -> x.show();
            case "undo" -> x.undo();
            case "round" -> x.round(a[0], a[1]);
            case "table" -> x.table();
            case "place" -> x.place(a[0], a[1]);
            case "beat" -> x.beat(a[0]);
            case "law" -> x.law(a[0], a[1]);
            case "mean" -> x.mean(a[0], a[1]);
            case "last" -> x.last(a[0]);
            case "buy" -> x.buy();
            case "game" -> x.game();
            case "lot" -> x.lot();
            case "share" -> x.share(a[0]);
            case "through" -> x.through(a[0], a[1]);
            case "built" -> x.built(a[0], a[1], a[2]);
            case "fair" -> x.fair(a[0]);
            case "parts" -> x.parts();
            case "riders" -> x.riders(a[0], a[1]);
            case "wind" -> x.wind(a[0], a[1], a[2], a[3]);
            case "keep" -> x.keep(a[0]) ? 1 : 0;
            case "again" -> x.again(a[0]) ? 1 : 0;
            case "count" -> x.count(a[0]);
            default -> x.row(a[0]);
        };
    }

    private static long slowly(String name, int[] a) {
        return switch (name) {
            case "sign" -> slow.sign(a[0]);
            case "end" -> slow.end(a[0]) ? 1 : 0;
            case "ring" -> slow.ring();
            case "horses" -> slow.horses();
            case "plan" -> slow.plan();
            case "rule" -> slow.rule();
            case "prizes" -> slow.prizes();
            case "fence" -> slow.fence(a[0], a[1]);
            case "horse" -> slow.horse(a[0], a[1]);
            case "raise" -> slow.raise(a[0], a[1]);
            case "move" -> slow.move(a[0], a[1]);
            case "allow" -> slow.allow(a[0]);
            case "sheet" -> slow.sheet(a[0], a[1], a[2], a[3]);
            case "jump" -> slow.jump(a[0], a[1], a[2]);
            case "strides" -> slow.strides(a[0], a[1]);
            case "calm" -> slow.calm(a[0], a[1]);
            case "fear" -> slow.fear(a[0], a[1]);
            case "falls" -> slow.falls(a[0], a[1]);
            case "poles" -> slow.poles(a[0], a[1], a[2]);
            case "cuts" -> slow.cuts(a[0], a[1]);
            case "curve" -> slow.curve(a[0], a[1]);
            case "quick" -> slow.quick(a[0], a[1]);
            case "sure" -> slow.sure(a[0]);
            case "ride" -> slow.ride(a[0], a[1], a[2], a[3]);
            case "look" -> slow.look(a[0], a[1], a[2]);
            case "told" -> slow.told(a[0], a[1], a[2], a[3]);
            case "show" -> slow.show();
            case "undo" -> slow.undo();
            case "round" -> slow.round(a[0], a[1]);
            case "table" -> slow.table();
            case "place" -> slow.place(a[0], a[1]);
            case "beat" -> slow.beat(a[0]);
            case "law" -> slow.law(a[0], a[1]);
            case "mean" -> slow.mean(a[0], a[1]);
            case "last" -> slow.last(a[0]);
            case "buy" -> slow.buy();
            case "game" -> slow.game();
            case "lot" -> slow.lot();
            case "share" -> slow.share(a[0]);
            case "through" -> slow.through(a[0], a[1]);
            case "built" -> slow.built(a[0], a[1], a[2]);
            case "fair" -> slow.fair(a[0]);
            case "parts" -> slow.parts();
            case "riders" -> slow.riders(a[0], a[1]);
            case "wind" -> slow.wind(a[0], a[1], a[2], a[3]);
            case "keep" -> slow.keep(a[0]) ? 1 : 0;
            case "again" -> slow.again(a[0]) ? 1 : 0;
            case "count" -> slow.count(a[0]);
            default -> slow.row(a[0]);
        };
    }
}
