import java.util.Random;

/** The same calls, drawn by fixed seeds, on the class and on Slow: all answers and all that can be seen must be alike. */
public final class RandomRunsTest {
    private static final int RUNS = 400;
    private static final int CALLS = 300;
    private static final int[] WILD = {Integer.MIN_VALUE, -100, -2, -1, 9, 12, 13, 100, 1000, 10001, 65536, Integer.MAX_VALUE};

    private static Random random;
    private static Pair both;

    private RandomRunsTest() {
    }

    public static void main(String[] args) {
        for (int run = 0; run < RUNS; run++) {
            random = new Random(run);
            both = new Pair();
            int mostFences = run % 40 == 0 ? 5 : 4;
            begin(mostFences);
            for (int i = 0; i < CALLS; i++) {
                step(run, mostFences);
            }
        }
        Check.end("RandomRunsTest");
    }

    private static void begin(int mostFences) {
        if (random.nextInt(8) > 0) {
            both.put(ringText(1 + random.nextInt(mostFences)));
            both.call("ring", "ring");
        }
        if (random.nextInt(8) > 0) {
            both.put(horsesText(1 + random.nextInt(6)));
            both.call("horses", "horses");
        }
        for (int i = random.nextInt(4); i > 0; i--) {
            both.put(letters("abcdefgh", both.count(0)));
            both.call("plan", "plan");
        }
    }

    private static void step(int run, int mostFences) {
        String name = Pair.NAMES[random.nextInt(Pair.NAMES.length)];
        int[] a = new int[4];
        for (int i = 0; i < 4; i++) {
            a[i] = random.nextInt(25) == 0 ? WILD[random.nextInt(WILD.length)] : random.nextInt(4);
        }
        widen(name, a);
        String signs = textFor(name, mostFences);
        if (signs != null) {
            both.put(signs);
        }
        String what = "run " + run + " " + name + "(" + a[0] + ", " + a[1] + ", " + a[2] + ", " + a[3] + ")"
            + (signs == null ? "" : " with " + signs);
        both.call(what, name, a);
    }

    /** Numbers that reach all of a call's inputs, mostly allowed ones. */
    private static void widen(String name, int[] a) {
        boolean wild = random.nextInt(12) == 0;
        if (wild) {
            return;
        }
        switch (name) {
            case "sign", "ride", "look" -> {
                a[0] = name.equals("sign") ? random.nextInt() : a[0];
                a[2] = name.equals("look") ? random.nextInt() : a[2];
                a[3] = random.nextInt();
            }
            case "end" -> a[0] = random.nextInt(90) - 4;
            case "raise" -> a[1] = random.nextInt(10);
            case "move" -> a[1] = 10 + random.nextInt(90);
            case "allow" -> a[0] = random.nextInt(random.nextBoolean() ? 400 : 10000);
            case "sheet" -> {
                a[1] = random.nextInt(11) - 1;
                a[2] = random.nextInt(3) == 0 ? random.nextInt() : random.nextInt(12) - 2;
                a[3] = random.nextInt(3) == 0 ? random.nextInt() : random.nextInt(5) - 2;
            }
            case "jump" -> a[2] = random.nextInt(8);
            case "curve" -> a[1] = random.nextInt(600);
            case "quick" -> a[1] = random.nextInt(300);
            case "told" -> {
                a[0] = random.nextInt(6);
                a[2] = random.nextInt(3) * 4 + random.nextInt(2);
                a[3] = random.nextInt(random.nextBoolean() ? 5 : 500);
            }
            case "round" -> {
                a[0] = random.nextInt(12);
                a[1] = random.nextInt(6);
            }
            case "place" -> {
                a[0] = random.nextInt(10);
                a[1] = random.nextInt(500);
            }
            case "beat" -> a[0] = random.nextInt(13);
            case "law" -> {
                a[0] = 1 + random.nextInt(100);
                a[1] = random.nextInt(10);
            }
            case "share" -> a[0] = 1 + random.nextInt(5);
            case "through", "built" -> {
                a[1] = random.nextInt(10001);
                a[2] = random.nextInt(7);
            }
            case "riders" -> {
                a[0] = random.nextInt(6);
                a[1] = random.nextInt(6);
            }
            case "wind" -> {
                a[2] = random.nextInt(7);
                a[1] = random.nextInt(a[2] + 1);
                a[3] = random.nextInt(101);
            }
            case "count", "row" -> a[0] = random.nextInt(11);
            default -> {
            }
        }
    }

    private static String textFor(String name, int mostFences) {
        String signs = switch (name) {
            case "ring" -> random.nextInt(5) > 0 ? null : ringText(1 + random.nextInt(mostFences));
            case "horses" -> horsesText(1 + random.nextInt(2));
            case "plan" -> letters("abcdefgh", both.count(0));
            case "rule" -> ruleText();
            case "prizes" -> prizesText();
            case "show" -> showText();
            case "game" -> letters("012", 1 + random.nextInt(3));
            case "lot" -> letters("012", 2 + random.nextInt(2));
            case "share" -> letters("012", 2);
            default -> null;
        };
        return signs != null && random.nextInt(4) == 0 ? spoil(signs) : signs;
    }

    private static String spoil(String signs) {
        int at = random.nextInt(signs.length() + 1);
        String some = "0159;,@uwdlhscpxfky+-*/<>=()rtx:ai" + (char) 0 + (char) 200;
        String more = letters(some, 1 + random.nextInt(2));
        String spoilt = switch (random.nextInt(4)) {
            case 0 -> signs.substring(0, at);
            case 1 -> signs.substring(0, at) + more + signs.substring(at);
            case 2 -> signs + ";" + signs + "," + signs;
            default -> signs.substring(0, at) + more + signs.substring(Math.min(signs.length(), at + 1));
        };
        return spoilt.substring(0, Math.min(80, spoilt.length()));
    }

    private static String letters(String from, int n) {
        StringBuilder s = new StringBuilder();
        for (int i = 0; i < n; i++) {
            s.append(from.charAt(random.nextInt(from.length())));
        }
        return s.toString();
    }

    private static String ringText(int n) {
        StringBuilder s = new StringBuilder();
        for (int i = 0; i < n; i++) {
            s.append(i > 0 ? ";" : "").append(letters("uwdl", 1)).append(random.nextInt(10)).append('@').append(10 + random.nextInt(90));
        }
        return s.toString();
    }

    private static String horsesText(int n) {
        StringBuilder s = new StringBuilder();
        for (int i = 0; i < n; i++) {
            s.append(i > 0 ? ";" : "").append(3 + random.nextInt(7)).append(letters("0123456789", 5));
        }
        return s.toString();
    }

    private static String prizesText() {
        StringBuilder s = new StringBuilder();
        int n = 1 + random.nextInt(7);
        for (int i = 0; i < n; i++) {
            s.append(i > 0 ? "," : "").append(random.nextInt(100));
        }
        return s.toString();
    }

    private static String ruleText() {
        if (random.nextInt(3) == 0) {
            return letters("hscpxfky0129+-*/<>=()", random.nextInt(12));
        }
        String e = expression(random.nextInt(5), true);
        return e.substring(0, Math.min(80, e.length()));
    }

    private static String expression(int depth, boolean mayCompare) {
        StringBuilder s = new StringBuilder();
        boolean compared = !mayCompare;
        int n = 1 + random.nextInt(4);
        for (int i = 0; i < n; i++) {
            if (i > 0) {
                String sign = letters(compared ? "+-*/" : "+-*/<>=", 1);
                compared |= "<>=".contains(sign);
                s.append(sign);
            }
            s.append(letters("-", random.nextInt(6) == 0 ? 1 + random.nextInt(2) : 0));
            int kind = random.nextInt(5);
            if (kind == 0 && depth > 0) {
                s.append('(').append(expression(depth - 1, true)).append(')');
            } else if (kind < 3) {
                s.append(letters("hscpxfky", 1));
            } else {
                s.append(random.nextInt(random.nextBoolean() ? 10 : 1000));
            }
        }
        return s.toString();
    }

    private static String showText() {
        StringBuilder s = new StringBuilder();
        int n = random.nextInt(6);
        for (int i = 0; i < n; i++) {
            s.append(i > 0 ? ";" : "");
            switch (random.nextInt(3)) {
                case 0 -> s.append('r').append(letters("012", 3)).append('*').append(random.nextInt(10));
                case 1 -> s.append('t').append(letters("012", 2)).append(':').append(random.nextInt(20)).append('+')
                    .append(random.nextInt(10000));
                default -> s.append('x');
            }
        }
        return s.toString();
    }
}
