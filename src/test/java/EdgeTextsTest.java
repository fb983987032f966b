/** Promises 1 to 8 at their boundaries: THE TEXT, which signs can stand in it, how long it may be, how many LINES have room. */
public final class EdgeTextsTest {
    private static final String THINGS = "hscpxfky";
    private static final String KINDS = "uwdl";
    private static final String JOINS = "+-*/";
    private static final String COMPARISONS = "<>=";

    private EdgeTextsTest() {
    }

    public static void main(String[] args) {
        newObject();
        signsOfAText();
        bytesOfASign();
        ends();
        ringSigns();
        ringLengths();
        ringAnew();
        horseSigns();
        horseRoom();
        planSigns();
        planRoom();
        ruleSigns();
        ruleLengths();
        ruleNesting();
        ruleNumbers();
        prizeSigns();
        prizeNumbers();
        Check.end("EdgeTextsTest");
    }

    private static void newObject() {
        FourAPole x = Edge.none();
        Check.due("no FENCES", x.count(0), 0);
        Check.due("no HORSES", x.count(1), 0);
        Check.throwsNoSuch("no FENCE 0", () -> x.fence(0, 0));
        Check.throwsNoSuch("no HORSE 0", () -> x.horse(0, 0));
        Check.throwsNoSuch("no ROUND 0", () -> x.round(0, 0));
        Check.throwsNoSuch("no number of the ROW", () -> x.row(0));
        Check.due("ALLOWED at first", x.count(4), 600);
        Check.due("an empty text: no RING", x.ring(), -1);
        Check.due("an empty text: no HORSES", x.horses(), 0);
        Check.due("an empty text: no RULE", x.rule(), 0);
        Check.due("an empty text: no MONEY", x.prizes(), -1);
        Check.due("an empty text: no SHOW", x.show(), 0);
        Check.due("no PLANS for a game", x.game(), -100);
        Check.due("no PLANS for a lot", x.lot(), -100);
        Check.due("no PLANS to share", x.share(1), -100);
        Check.due("no HORSES to buy", x.buy(), -2);
        Check.due("nothing to undo", x.undo(), -1);
        Check.due("an empty text: the PLAN of no FENCES", x.plan(), 0);
    }

    private static void signsOfAText() {
        for (int size = 0; size <= 80; size++) {
            FourAPole x = Check.text(Edge.none(), Check.times("u", size));
            Check.due("signs", x.count(7), size);
            Check.due("four signs behind " + size, x.sign(0x75757575), size <= 76 ? size + 4 : -1);
            Check.due("signs then", x.count(7), size <= 76 ? size + 4 : size);
        }
        for (int size = 77; size <= 80; size++) {
            String text = ("u5@50" + Check.times("x", 80)).substring(0, size);
            FourAPole x = Check.text(Edge.none(), text);
            Check.due("refused", x.sign(0), -1);
            Check.due("the signs are as they were", x.ring(), -6);
            Check.text(x, text);
            x.sign(0);
            x.end(5);
            Check.due("so are the first five", x.ring(), 1);
        }
        Edge.changesNothing("sign behind 80", Edge::some, -1, x -> {
            String text = Edge.TEXT + Check.times("z", 80 - Edge.TEXT.length());
            Check.text(x, text);
            long answer = x.sign(0x41414141);
            x.end(Edge.TEXT.length());
            return answer;
        });
    }

    private static void bytesOfASign() {
        // Each byte alone can be seen where it is a digit of a HORSE: STRIDE and SCOPE, then CARE of u and w.
        for (int place = 0; place < 4; place++) {
            for (int digit = 3; digit <= 9; digit++) {
                FourAPole x = Edge.none();
                x.sign(0x33333333 + (digit - 3 << 8 * (3 - place)));
                x.sign(0x33333333);
                x.end(6);
                x.horses();
                for (int what = 0; what < 6; what++) {
                    Check.due("byte " + place + " as number " + what, x.horse(0, what), what == place ? digit : 3);
                }
            }
        }
        for (int byteValue : new int[] {0, 0x2f, 0x3a, 0x7f, 0x80, 0xb3, 0xff}) {
            for (int place = 0; place < 4; place++) {
                FourAPole x = Edge.none();
                x.sign(0x33333333 & ~(255 << 8 * (3 - place)) | byteValue << 8 * (3 - place));
                Check.due("byte " + byteValue + " at " + place, x.horses(), -1 - place);
            }
        }
        FourAPole x = Edge.none();
        Check.due("the least sign", x.sign(Edge.MIN), 4);
        Check.due("the most sign", x.sign(Edge.MAX), 8);
        Check.due("all bits", x.sign(-1), 12);
    }

    private static void ends() {
        for (int size : new int[] {0, 1, 4, 5, 79, 80}) {
            for (int n : new int[] {Edge.MIN, -81, -80, -1, 0, 1, size - 1, size, size + 1, size + 4, 81, 256, Edge.MAX}) {
                FourAPole x = Check.text(Edge.none(), Check.times("u", size));
                boolean can = n >= 0 && n <= size;
                Check.due("end(" + n + ") of " + size, x.end(n), can);
                Check.due("end(" + n + ") of " + size + ": signs", x.count(7), can ? n : size);
            }
        }
        FourAPole x = Check.text(Edge.none(), "u5@50;w");
        Check.due("more than there are", x.end(8), false);
        Check.due("below 0", x.end(-1), false);
        Check.due("all of them", x.end(7), true);
        Check.due("one less", x.end(6), true);
        Check.due("none comes back", x.end(7), false);
        x.sign(0x64394039);
        x.sign(0x39000000);
        x.end(11);
        Check.due("signs come behind those that are left", x.ring(), 2);
        Check.due("the first", x.fence(0, 2), 50);
        Check.due("the second", x.fence(1, 2), 99);
        Check.due("an empty text has its first 0 signs", x.end(0), true);
        Check.due("not 1", x.end(1), false);
        Edge.changesNothing("end of more", Edge::some, 0, y -> y.end(Edge.TEXT.length() + 1) ? 1 : 0);
        Edge.changesNothing("end of all", Edge::some, 1, y -> y.end(Edge.TEXT.length()) ? 1 : 0);
    }

    private static void ringSigns() {
        for (int line = 0; line < 8; line++) {
            String ahead = Check.times("l9@99;", line);
            Edge.signsBehind(ahead, KINDS, Edge::some, FourAPole::ring);
            Edge.signsBehind(ahead + "u", Edge.DIGITS, Edge::some, FourAPole::ring);
            Edge.signsBehind(ahead + "w0", "@", Edge::some, FourAPole::ring);
            Edge.signsBehind(ahead + "d9@", Edge.digitsFrom(1, 9), Edge::some, FourAPole::ring);
            Edge.signsBehind(ahead + "l9@1", Edge.DIGITS, Edge::some, FourAPole::ring);
            Edge.signsBehind(ahead + "u0@10", ";", Edge::some, FourAPole::ring);
        }
        Edge.signsBehind(Check.times("l9@99;", 8), "", Edge::some, FourAPole::ring);
        Edge.beginnings(Edge.ring(8) + ";", "5 11 17 23 29 35 41 47", Edge::some, FourAPole::ring, 1, 2, 3, 4, 5, 6, 7, 8);
    }

    private static void ringLengths() {
        for (int n = 1; n <= 13; n++) {
            FourAPole x = Check.text(Edge.none(), Edge.ring(n));
            Check.due("a RING of " + n, x.ring(), n <= 8 ? n : -49);
            Check.due("FENCES of " + n, x.count(0), n <= 8 ? n : 0);
        }
        String eight = Edge.ring(8);
        for (int size = 48; size <= 80; size++) {
            String more = (eight + ";" + Check.times("u1@10;", 8)).substring(0, size);
            Edge.changesTextAlone("a ninth LINE", Edge::some, more, -49, FourAPole::ring);
        }
        Edge.changesTextAlone("80 signs that can't stand at 0", Edge::some, Check.times("x", 80), -1, FourAPole::ring);
        Edge.changesTextAlone("80 signs that can't stand at 5", Edge::some, "u1@10" + Check.times("x", 75), -6, FourAPole::ring);
        for (int kind = 0; kind < 4; kind++) {
            for (int height = 0; height <= 9; height++) {
                for (int feet : new int[] {10, 11, 19, 20, 98, 99}) {
                    FourAPole x = Check.text(Edge.none(), "" + KINDS.charAt(kind) + height + "@" + feet);
                    Check.due("one FENCE", x.ring(), 1);
                    Check.due("its kind, HEIGHT and FEET", x.fence(0, 0) * 1000 + x.fence(0, 1) * 100 + x.fence(0, 2), kind * 1000 + height * 100 + feet);
                }
            }
        }
        for (int feet = 0; feet < 10; feet++) {
            Edge.changesTextAlone("FEET below 10", Edge::some, "u1@0" + feet, -4, FourAPole::ring);
        }
    }

    /** A RING that comes takes PLANS, ROUNDS, what can be undone and what is kept with it; another leaves all. */
    private static void ringAnew() {
        for (Edge.Maker maker : new Edge.Maker[] {Edge::some, Edge::full}) {
            for (String text : new String[] {"", "u", "u3@40;", "u3@4", "u3@400", Edge.ring(8) + ";"}) {
                int at = text.equals("u3@400") ? 5 : text.length();
                Edge.changesTextAlone("a RING that can't stand", maker, text, -1 - at, FourAPole::ring);
            }
            for (int n : new int[] {1, 2, 7, 8}) {
                FourAPole x = Check.text(maker.make(), Edge.ring(n));
                int horses = x.count(1);
                int allowed = x.count(4);
                int row = x.count(6);
                int money = x.count(8);
                Check.due("a RING anew", x.ring(), n);
                int[] want = {n, horses, 0, 0, allowed, 0, row, 0, money};
                for (int i = 0; i < want.length; i++) {
                    Check.due("a RING anew: count(" + i + ")", x.count(i), want[i]);
                }
                Check.throwsNoSuch("a RING anew: no FENCE more", () -> x.fence(n, 0));
                Check.throwsNoSuch("a RING anew: no ROUND", () -> x.round(0, 0));
                Check.due("a RING anew: nothing kept under 0", x.again(0), false);
                Check.due("a RING anew: nothing kept under 1", x.again(1), false);
                Check.due("a RING anew: nothing to undo", x.undo(), -1);
                Check.due("a RING anew: no PLAN", x.fear(0, 0), -1);
                Check.due("a RING anew: the first PLAN", Check.text(x, Check.times("h", n)).plan(), 0);
            }
        }
    }

    private static void horseSigns() {
        for (int line = 0; line < 6; line++) {
            String ahead = Check.times("312345;", line);
            Edge.signsBehind(ahead, Edge.digitsFrom(3, 9), Edge::none, FourAPole::horses);
            for (String some : new String[] {"3", "90", "399", "3000", "99999"}) {
                Edge.signsBehind(ahead + some, Edge.DIGITS, Edge::none, FourAPole::horses);
            }
            Edge.signsBehind(ahead + "300000", ";", Edge::none, FourAPole::horses);
        }
        Edge.signsBehind(Check.times("312345;", 6), "", Edge::none, FourAPole::horses);
        Edge.signsBehind("", "", Edge::full, FourAPole::horses);
        Edge.beginnings(Edge.horses(6) + ";", "0 6 13 20 27 34 41", Edge::none, FourAPole::horses, 0, 1, 2, 3, 4, 5, 6);
    }

    private static FourAPole withHorses(int n) {
        FourAPole x = Edge.none();
        for (int i = 0; i < n; i++) {
            Check.text(x, (3 + i) + "5432" + i).horses();
        }
        return x;
    }

    private static void horseRoom() {
        for (int ahead = 0; ahead <= 6; ahead++) {
            for (int lines = 0; lines <= 11; lines++) {
                FourAPole x = Check.text(withHorses(ahead), Edge.horses(lines));
                boolean room = ahead + lines <= 6;
                String what = lines + " HORSES behind " + ahead;
                Check.due(what, x.horses(), room ? lines : -1 - 7 * (6 - ahead));
                Check.due(what + ": how many", x.count(1), room ? ahead + lines : ahead);
                Check.due(what + ": the text is empty", x.count(7), 0);
                for (int i = 0; i < ahead; i++) {
                    Check.due(what + ": STRIDE of " + i + " stays", x.horse(i, 0), 3 + i);
                    Check.due(what + ": CARE of " + i + " stays", x.horse(i, 5), i);
                }
                int all = x.count(1);
                Check.throwsNoSuch(what + ": none more", () -> x.horse(all, 0));
            }
        }
        for (String text : new String[] {"912345;", "912345;2", "912345;91234", "912345;912345;x", "912345x"}) {
            int at = text.equals("912345;2") || text.equals("912345;912345;x") || text.equals("912345x") ? text.length() - 1 : text.length();
            Edge.changesTextAlone("nothing of it comes", Edge::some, text, -1 - at, FourAPole::horses);
        }
        Edge.changesTextAlone("nothing is told", Edge::some, "", 0, FourAPole::horses);
        Edge.changesTextAlone("nothing is told when 6 are there", Edge::full, "", 0, FourAPole::horses);
        Edge.changesTextAlone("a seventh", Edge::full, "312345", -1, FourAPole::horses);
        Edge.changesTextAlone("a seventh that is none", Edge::full, "x", -1, FourAPole::horses);
        Edge.changesTextAlone("80 digits", Edge::some, Check.times("3", 80), -7, FourAPole::horses);
        for (int stride = 3; stride <= 9; stride++) {
            FourAPole x = Check.text(Edge.none(), stride + "90909");
            Check.due("STRIDE " + stride, x.horses(), 1);
            Check.due("STRIDE " + stride + " stands", x.horse(0, 0), stride);
            Check.due("SCOPE and CARE stand", x.horse(0, 1) * 10000 + x.horse(0, 2) * 1000 + x.horse(0, 3) * 100 + x.horse(0, 4) * 10 + x.horse(0, 5), 90909);
        }
        FourAPole x = Edge.full();
        Check.due("HORSES leave all else: PLANS", x.count(2) * 100 + x.count(3), 612);
    }

    private static FourAPole withFences(int n) {
        FourAPole x = Edge.none();
        if (n > 0) {
            Check.text(x, Edge.ring(n)).ring();
        }
        return x;
    }

    private static void planSigns() {
        for (int fences = 1; fences <= 8; fences++) {
            int n = fences;
            for (int at = 0; at < n; at++) {
                Edge.signsBehind("ahahahah".substring(0, at), "abcdefgh", () -> withFences(n), FourAPole::plan);
            }
            Edge.signsBehind("hahahaha".substring(0, n), "", () -> withFences(n), FourAPole::plan);
        }
        Edge.signsBehind("", "", () -> withFences(0), FourAPole::plan);
        for (int fences = 0; fences <= 8; fences++) {
            for (int size = 0; size <= 80; size++) {
                FourAPole x = Check.text(withFences(fences), Check.times("a", size));
                int want = size < fences ? -1 - size : size > fences ? -1 - fences : 0;
                Check.due(size + " letters for " + fences + " FENCES", x.plan(), want);
                Check.due(size + " letters for " + fences + " FENCES: PLANS", x.count(2), want < 0 ? 0 : 1);
                Check.due(size + " letters for " + fences + " FENCES: the text is empty", x.count(7), 0);
            }
        }
    }

    private static void planRoom() {
        FourAPole x = Check.course("u1@40", "300000");
        for (int i = 0; i < 6; i++) {
            Check.due("a PLAN that can't stand", Check.text(x, "i").plan(), -1);
            Check.due("a PLAN that ends too early", Check.text(x, "").plan(), -1);
            Check.due("a PLAN with a sign more", Check.text(x, "ab").plan(), -2);
            Check.due("how many then", x.count(2), i);
            Check.due("PLAN " + i, Check.text(x, "abcdeh".substring(i, i + 1)).plan(), i);
        }
        int[] tenths = {60, 50, 40, 30, 50, 20};
        for (int i = 0; i < 6; i++) {
            x.fear(0, i);
            Check.due("TENTHS of PLAN " + i, x.row(0), tenths[i]);
        }
        for (String text : new String[] {"a", "", "i", "ab", Check.times("a", 80)}) {
            Edge.changesTextAlone("6 are there", Edge::full, text, -100, FourAPole::plan);
        }
        Edge.changesTextAlone("a PLAN that can't stand", Edge::some, "aax", -3, FourAPole::plan);
        Check.due("after another RING", Check.text(x, "u1@40").ring(), 1);
        Check.due("there is room for PLANS", Check.text(x, "a").plan(), 0);
    }

    private static void rule(String ahead, String allowed) {
        Edge.signsBehind(ahead, allowed, Edge::some, FourAPole::rule);
    }

    private static void ruleSigns() {
        String start = Edge.DIGITS + THINGS + "-(";
        for (String ahead : new String[] {"", "-", "--", "(", "((", "(((", "h+", "h-", "h*", "h/", "h<", "h>", "h=", "(h<", "h<(", "(-", "h--", "12+"}) {
            rule(ahead, start);
        }
        rule("((((", Edge.DIGITS + THINGS + "-");
        rule("((((-", Edge.DIGITS + THINGS + "-");
        rule("((((h+", Edge.DIGITS + THINGS + "-");
        rule("((((h))))+", start);
        rule("((((h)+", start);
        for (int i = 0; i < THINGS.length(); i++) {
            rule(THINGS.substring(i, i + 1), JOINS + COMPARISONS);
        }
        for (String ahead : new String[] {"123", "000", "-h", "(h)", "((((h))))", "(h<s)", "h+s", "h*123"}) {
            rule(ahead, JOINS + COMPARISONS);
        }
        rule("1", Edge.DIGITS + JOINS + COMPARISONS);
        rule("12", Edge.DIGITS + JOINS + COMPARISONS);
        rule("h<1", Edge.DIGITS + JOINS);
        rule("h<12", Edge.DIGITS + JOINS);
        for (String ahead : new String[] {"h<s", "h>s", "h=s", "h<123", "h+c=s*p", "h<(s)", "h<(s<c)", "(h<s)<c"}) {
            rule(ahead, JOINS);
        }
        for (String ahead : new String[] {"(h", "(123", "((((h", "h<(s", "(h<s)=(c", "((h<s)"}) {
            rule(ahead, JOINS + COMPARISONS + ")");
        }
        rule("(1", Edge.DIGITS + JOINS + COMPARISONS + ")");
        rule("(h<s", JOINS + ")");
        rule("(h<(s=c)", JOINS + ")");
        Edge.beginnings("-h+(s<12)", "0 2 9", Edge::some, FourAPole::rule, 0, 0, 0);
    }

    private static String sum(int size) {
        return size % 2 == 1 ? "h" + Check.times("+h", size / 2) : "10" + Check.times("+h", size / 2 - 1);
    }

    private static void ruleLengths() {
        for (int size = 1; size <= 80; size++) {
            FourAPole x = Check.text(Edge.some(), size == 2 ? "10" : sum(size));
            Check.due("a RULE of " + size, x.rule(), size <= 40 ? 0 : -41);
            x = Check.text(Edge.some(), Check.times("-", size));
            Check.due("so many -: " + size, x.rule(), size <= 40 ? -1 - size : -41);
            x = Check.text(Edge.some(), Check.times("-", size - 1) + "h");
            Check.due("so many - ahead of h: " + size, x.rule(), size <= 40 ? 0 : -41);
        }
        for (int size = 38; size <= 42; size++) {
            String open = "(" + sum(size - 1);
            Edge.changesTextAlone("a RULE of " + size + " that is open", Edge::some, open, size <= 40 ? -1 - size : -41, FourAPole::rule);
            String wrong = sum(size - 1) + "z";
            Edge.changesTextAlone("a RULE of " + size + " with a wrong end", Edge::some, wrong, size <= 41 ? -size : -41, FourAPole::rule);
        }
        String closed = "(" + sum(38) + ")";
        Check.due("the last sign closes", Check.text(Edge.some(), closed).rule(), 0);
        Edge.changesTextAlone("the 41st would close", Edge::some, "(" + sum(39) + ")", -41, FourAPole::rule);
        Edge.changesTextAlone("40 that can't stand", Edge::some, sum(39) + "z" + sum(39), -40, FourAPole::rule);
        FourAPole x = Check.text(Edge.some(), Check.times("-", 38) + "17");
        x.rule();
        Check.due("a RULE of 40 counts whole", x.jump(0, 0, 0), 17);
        Check.text(x, "1" + Check.times("+1", 19)).rule();
        Check.due("a RULE of 39 counts whole", x.jump(0, 0, 0), 20);
        Check.text(x, "").rule();
        Check.due("none: h*3-s*2-c+p*p+x*4+f*2+5", x.jump(0, 0, 7), 9 - 10 - 5 + 9 + 4 + 0 + 5);
    }

    private static void ruleNesting() {
        for (int depth = 0; depth <= 10; depth++) {
            String text = Check.times("(", depth) + "7" + Check.times(")", depth);
            FourAPole x = Edge.some();
            int before = x.jump(0, 0, 0);
            Check.due(depth + " in one another", Check.text(x, text).rule(), depth <= 4 ? 0 : -5);
            Check.due(depth + " in one another: ODDS", x.jump(0, 0, 0), depth <= 4 ? 7 : before);
        }
        Check.due("4 twice", Check.text(Edge.some(), "((((h))))+((((h))))").rule(), 0);
        Check.due("5 the second time", Check.text(Edge.some(), "((((h))))+(((((h)))))").rule(), -15);
        Check.due("4, one closed, one opened", Check.text(Edge.some(), "((((h)+(s))))").rule(), 0);
        Check.due("4, one closed, two opened", Check.text(Edge.some(), "((((h)+((s)))))").rule(), -9);
        Check.due("- between", Check.text(Edge.some(), "-(-(-(-(-h))))").rule(), 0);
        Check.due("- between 5", Check.text(Edge.some(), "-(-(-(-(-(h)))))").rule(), -10);
    }

    private static void odds(String rule, int want) {
        FourAPole x = Edge.some();
        Check.due("rule " + rule, Check.text(x, rule).rule(), 0);
        Check.due("ODDS by " + rule, x.jump(0, 0, 0), want);
    }

    private static void ruleNumbers() {
        int[][] put = {{0, 0}, {1, 1}, {2, 2}, {98, 98}, {99, 99}, {100, 100}, {101, 100}, {102, 100}, {999, 100}};
        for (int[] p : put) {
            odds(Integer.toString(p[0]), p[1]);
            odds("-" + p[0], 0);
            odds("--" + p[0], p[1]);
            odds("0-" + p[0], 0);
        }
        odds("00", 0);
        odds("007", 7);
        odds("010", 10);
        odds("7/0", 0);
        odds("-7/0+3", 3);
        odds("0/0+3", 3);
        odds("7/(4-4)+3", 3);
        odds("7/0*9+3", 3);
        odds("7/7", 1);
        odds("7/8", 0);
        odds("8/7", 1);
        odds("13/7", 1);
        odds("14/7", 2);
        odds("10-13/7", 9);
        odds("10+-13/7", 9);
        odds("10+13/-7", 9);
        odds("10+-14/7", 8);
        odds("-13/-7", 1);
        // 2 to the 31st, less one: the most that an int holds, and one more.
        String power = "512*512*512*16";
        odds(power + "<0", 1);
        odds(power + "-1>0", 1);
        odds("(" + power + ")/-1<0", 1);
        odds("-(" + power + ")<0", 1);
        odds(power + "*2+5", 5);
        odds("512*512*512*8>0", 1);
        odds("1<2", 1);
        odds("2<2", 0);
        odds("3<2", 0);
        odds("1>2", 0);
        odds("2>2", 0);
        odds("3>2", 1);
        odds("1=2", 0);
        odds("2=2", 1);
        odds("3=2", 0);
        odds("-1<0", 1);
        odds("0--1>0", 1);
    }

    private static void prize(String ahead, String allowed) {
        Edge.signsBehind(ahead, allowed, Edge::some, FourAPole::prizes);
    }

    private static void prizeSigns() {
        for (int n = 0; n < 6; n++) {
            String one = Check.times("7,", n);
            String two = Check.times("99,", n);
            prize(one, Edge.DIGITS);
            prize(two, Edge.DIGITS);
            prize(one + "0", Edge.DIGITS + ",");
            prize(two + "9", Edge.DIGITS + ",");
            prize(one + "00", ",");
            prize(two + "99", ",");
        }
        prize(Check.times("7,", 6), "");
        prize(Check.times("99,", 6), "");
        Edge.beginnings("1,2,3,4,5,6,", "1 3 5 7 9 11", Edge::some, FourAPole::prizes, 1, 2, 3, 4, 5, 6);
        Edge.beginnings("12,3", "1 2 4", Edge::some, FourAPole::prizes, 1, 1, 2);
        for (String text : new String[] {"", ",", "1,", "1,2,3,4,5,6,", "99,99,99,99,99,99,"}) {
            int at = text.equals(",") ? 0 : text.length();
            Edge.changesTextAlone("MONEY that can't stand", Edge::some, text, -1 - at, FourAPole::prizes);
        }
        Edge.changesTextAlone("a seventh number", Edge::some, "1,2,3,4,5,6,7", -13, FourAPole::prizes);
        Edge.changesTextAlone("80 signs", Edge::some, Check.times("1,", 40), -13, FourAPole::prizes);
        Edge.changesTextAlone("3 digits", Edge::some, "100", -3, FourAPole::prizes);
        Edge.changesTextAlone("3 digits at last", Edge::some, "1,2,3,4,5,100", -13, FourAPole::prizes);
    }

    private static void prizeNumbers() {
        FourAPole first = moneyOf("");
        int[] usual = {50, 30, 20, 10, 5, 5, 0, 0, 0, 0, 0, 0};
        for (int i = 0; i < 12; i++) {
            Check.due("MONEY at first of place " + (i + 1), first.round(i, 5), usual[i]);
        }
        String[] texts = {"0", "1", "98", "99", "99,0", "0,99", "00,01,10,99", "1,2,3,4,5", "1,2,3,4,5,6", "99,98,97,96,95,94", "0,0,0,0,0,1"};
        for (String text : texts) {
            FourAPole x = moneyOf(text);
            String[] parts = text.split(",");
            int sum = 0;
            for (int i = 0; i < 12; i++) {
                int want = i < parts.length ? Integer.parseInt(parts[i]) : 0;
                sum += want;
                Check.due("MONEY " + text + " of place " + (i + 1), x.round(i, 5), want);
            }
            Check.due("MONEY " + text + " in all", x.count(8), sum);
        }
    }

    /** Twelve ROUNDS by places. */
    private static FourAPole moneyOf(String text) {
        FourAPole x = Check.course("u1@10", "300000");
        if (!text.isEmpty()) {
            Check.text(x, "11,12,13,14,15,16").prizes();
            Check.due("prizes " + text, Check.text(x, text).prizes(), text.split(",").length);
        }
        for (int i = 0; i < 12; i++) {
            x.told(0, 0, 0, i);
        }
        return x;
    }
}
