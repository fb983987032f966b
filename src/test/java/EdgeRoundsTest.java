/** Promises 25 to 34 at their boundaries: draws, time, a full TABLE, shows that are too long or stuck, twelve to undo, equal places. */
public final class EdgeRoundsTest {
    private static final int[] SEEDS = {0, 1, 2, -1, -2, Edge.MIN, Edge.MIN + 1, Edge.MAX, Edge.MAX - 1, 65535, 65536, -65536, 12345, 1103515245};

    private EdgeRoundsTest() {
    }

    public static void main(String[] args) {
        draws();
        drawsOfEight();
        time();
        ridesTillFull();
        toldTillFull();
        showSigns();
        showLengths();
        showTextsDoNothing();
        showActs();
        showTillFull();
        showStrikes();
        undoOfSoMany();
        undoOfMixed();
        undoForgets();
        rounds();
        tables();
        places();
        beats();
        lawSpans();
        lawFaults();
        Check.end("EdgeRoundsTest");
    }

    /** A DRAW of 100 by the words: R as an int, without sign, by 65536, and what is left of 100. */
    private static int next(int r) {
        return (int) ((r * 1103515245L + 12345L) % 4294967296L);
    }

    private static int drawn(int r) {
        long unsigned = r < 0 ? r + 4294967296L : r;
        return (int) (unsigned / 65536 % 100);
    }

    private static void draws() {
        FourAPole x = Check.course("u0@13", "900000", "a");
        for (int seed : SEEDS) {
            int first = next(seed);
            int second = next(first);
            int refused = drawn(first) < 16 ? 1 : 0;
            for (int more = -1; more <= 2; more++) {
                int odds = Math.max(0, drawn(second) + more);
                Check.text(x, Integer.toString(odds)).rule();
                int fell = drawn(second) < odds ? 1 : 0;
                String what = "seed " + seed + ", a pole by " + odds;
                Check.due(what, x.look(0, 0, seed), 4 * refused + 4 * fell);
                Check.rowIs(what, x, 19 + 60 * refused, refused, fell, second);
            }
        }
        Check.text(x, "100").rule();
        FourAPole never = Check.course("u0@18", "900000", "a");
        Check.text(never, "0").rule();
        for (int seed = -200; seed < 200; seed++) {
            x.look(0, 0, seed);
            Check.due("100 of 100 always, seed " + seed, x.row(2), 1);
            Check.due("0 of 100 never, seed " + seed, never.look(0, 0, seed), 0);
            Check.due("0 of 100 never: bits, seed " + seed, never.row(1) + never.row(2), 0);
        }
    }

    /** Refusals of 21, 16, 13 (8 and 5), 8, 5 and 0, and poles that fall at some of eight FENCES. */
    private static void drawsOfEight() {
        FourAPole x = Check.course("l0@13;u0@14;l0@12;w0@15;l0@18;u0@11;d0@13;l0@14", "900000", "aaaaaaaa");
        int[] refusals = {21, 16, 13, 8, 5, 0, 16, 21};
        Check.text(x, "50").rule();
        int tenths = 19 + 21 + 18 + 22 + 27 + 16 + 21 + 21;
        int lastRefused = 0;
        for (int seed = 0; seed < 300; seed++) {
            int r = seed;
            int refused = 0;
            int fell = 0;
            for (int i = 0; i < 8; i++) {
                r = next(r);
                refused |= drawn(r) < refusals[i] ? 1 << i : 0;
                r = next(r);
                fell |= drawn(r) < 50 ? 1 << i : 0;
            }
            int late = 60 * Integer.bitCount(refused);
            x.allow(tenths);
            int faults = 4 * Integer.bitCount(refused) + 4 * Integer.bitCount(fell) + late / 40 + (late % 40 > 0 ? 1 : 0);
            Check.due("eight by seed " + seed, x.look(0, 0, seed), faults);
            Check.rowIs("eight by seed " + seed, x, tenths + late, refused, fell, r);
            lastRefused |= refused;
        }
        Check.due("all but the sixth were refused at least once", lastRefused, 255 - 32);
        Check.text(x, "100").rule();
        x.look(0, 0, 1);
        Check.due("all eight fall", x.row(2), 255);
    }

    private static void time() {
        FourAPole x = Check.course("d0@99" + Check.times(";d0@99", 7), "300000", "aaaaaaaa");
        Check.text(x, "0").rule();
        int[][] want = {{9999, 0}, {1201, 0}, {1200, 0}, {1199, 1}, {1161, 1}, {1160, 1}, {1159, 2}, {1120, 2}, {1119, 3}, {41, 29}, {40, 29}, {39, 30},
            {1, 30}, {0, 30}};
        for (int[] w : want) {
            x.allow(w[0]);
            Check.due("1200 TENTHS with " + w[0] + " ALLOWED", x.look(0, 0, 7), w[1]);
            Check.due("1200 TENTHS with " + w[0] + " ALLOWED, ridden", x.ride(0, 0, 0, 7), w[1]);
            Check.due("so it stands", x.round(0, 2) * 10000 + x.round(0, 3), w[1] * 10000 + 1200);
            x.undo();
        }
    }

    private static void ridesTillFull() {
        FourAPole x = Check.course("u0@13", "900000", "a");
        for (int i = 0; i < 12; i++) {
            int look = x.look(0, 0, SEEDS[i]);
            long tenths = x.row(0);
            Check.due("ROUND " + i, x.ride(i % 6, 0, 0, SEEDS[i]), look);
            Check.due("so many then", x.count(3), i + 1);
            Check.due("as it looked", x.round(i, 3), tenths);
            Check.due("by its RIDER", x.round(i, 0), i % 6);
        }
        Check.due("a thirteenth", x.ride(0, 0, 0, 1), -2);
        Check.due("a look at it", x.look(0, 0, 1) >= 0, true);
        Check.due("a look leaves twelve", x.count(3) * 100 + x.count(5), 1212);
        x.undo();
        Check.due("eleven have room", x.ride(5, 0, 0, 1) >= 0, true);
        Check.due("twelve again", x.count(3), 12);
        Edge.changesNothing("12 are there", Edge::full, -2, y -> y.ride(0, 0, 0, 1));
        Edge.changesNothing("12 are there, the last of all", Edge::full, -2, y -> y.ride(5, 5, 5, -1));
        Edge.changesNothing("12 are there, RIDER 6", Edge::full, -1, y -> y.ride(6, 0, 0, 1));
        Edge.changesNothing("12 are there, HORSE 6", Edge::full, -1, y -> y.ride(0, 6, 0, 1));
        Edge.changesNothing("12 are there, PLAN 6", Edge::full, -1, y -> y.ride(0, 0, 6, 1));
        FourAPole full = Edge.full();
        Check.due("look when 12 are there", full.look(5, 5, 3) >= 0, true);
        Check.due("its ROW", full.count(6), 4);
        Check.due("look changes no ROUND", full.count(3) * 100 + full.count(5), 1212);
        FourAPole noPlan = Check.course("u0@13", "900000");
        Check.due("no PLAN to ride by", noPlan.ride(0, 0, 0, 1), -1);
        Check.due("no PLAN to look by", noPlan.look(0, 0, 1), -1);
    }

    private static void toldTillFull() {
        FourAPole x = Check.course("u0@13", "900000;300000");
        for (int i = 0; i < 12; i++) {
            Check.due("told " + i, x.told(i % 6, i % 2, i == 0 ? 99 : i == 1 ? 98 : i - 2, i == 0 ? 9999 : i == 1 ? 9998 : i - 2), i + 1);
        }
        Check.due("a thirteenth", x.told(0, 0, 0, 0), -2);
        Check.due("twelve", x.count(3), 12);
        Check.due("the most", x.round(0, 2) * 10000 + x.round(0, 3), 999999);
        Check.due("one less", x.round(1, 2) * 10000 + x.round(1, 3), 989998);
        Check.due("the least", x.round(2, 2) * 10000 + x.round(2, 3), 0);
        Check.due("one more", x.round(3, 2) * 10000 + x.round(3, 3), 10001);
        Edge.changesNothing("12 are there", Edge::full, -2, y -> y.told(0, 0, 0, 0));
        Edge.changesNothing("12 are there, the most of all", Edge::full, -2, y -> y.told(5, 5, 99, 9999));
        int[][] bad = {{-1, 0, 0, 0}, {6, 0, 0, 0}, {0, -1, 0, 0}, {0, 6, 0, 0}, {0, 0, -1, 0}, {0, 0, 100, 0}, {0, 0, 0, -1}, {0, 0, 0, 10000}};
        for (int[] b : bad) {
            Edge.changesNothing("12 are there, none such", Edge::full, -1, y -> y.told(b[0], b[1], b[2], b[3]));
        }
        FourAPole noRing = Check.course("", "900000");
        Check.due("without FENCES or PLANS", noRing.told(0, 0, 0, 0), 1);
        Check.due("without a HORSE", Edge.none().told(0, 0, 0, 0), -1);
    }

    private static void show(String ahead, String allowed) {
        Edge.signsBehind(ahead, allowed, Edge::some, FourAPole::show);
    }

    private static void showSigns() {
        for (String ahead : new String[] {"", "x;", "r000*0;", "t00:0+0;"}) {
            show(ahead, "rtx");
            show(ahead + "x", ";");
            show(ahead + "r", Edge.DIGITS);
            show(ahead + "r9", Edge.DIGITS);
            show(ahead + "r00", Edge.DIGITS);
            show(ahead + "r999", "*");
            show(ahead + "r000*", Edge.DIGITS);
            show(ahead + "r000*9", ";");
            show(ahead + "t", Edge.DIGITS);
            show(ahead + "t9", Edge.DIGITS);
            show(ahead + "t99", ":");
            show(ahead + "t00:", Edge.DIGITS);
            show(ahead + "t00:0", Edge.DIGITS + "+");
            show(ahead + "t00:99", "+");
            show(ahead + "t00:0+", Edge.DIGITS);
            show(ahead + "t00:99+", Edge.DIGITS);
            show(ahead + "t00:0+0", Edge.DIGITS + ";");
            show(ahead + "t00:0+99", Edge.DIGITS + ";");
            show(ahead + "t00:0+000", Edge.DIGITS + ";");
            show(ahead + "t00:0+9999", ";");
        }
        Edge.beginnings("x;t10:12+3456;r010*7;x", "0 1 10 11 12 13 20 22", Edge::some, FourAPole::show, 0, 1, 2, 2, 2, 2, 3, 4);
    }

    /** A SHOW that has just so many signs. */
    private static String showOf(int size) {
        return size % 2 == 1 ? "x" + Check.times(";x", size / 2) : Check.times("x;", (size - 6) / 2) + "r000*1";
    }

    private static void showLengths() {
        for (int size = 1; size <= 80; size++) {
            if (size != 2 && size != 4) {
                FourAPole x = Check.text(Edge.some(), showOf(size));
                int answer = x.show();
                Check.due("a SHOW of " + size + " can stand", answer >= 0, size <= 60);
                Check.due("a SHOW of " + size, size <= 60 ? 0 : answer, size <= 60 ? 0 : -61);
            }
        }
        for (int acts = 1; acts <= 40; acts++) {
            int want = acts <= 30 ? -1 - 2 * acts : -61;
            Edge.changesTextAlone("a SHOW with its last ;", Edge::some, Check.times("x;", acts), want, FourAPole::show);
        }
        String[] inside = {"r000*1", "t00:12+3456"};
        for (String act : inside) {
            for (int ahead = 25; ahead < 30; ahead++) {
                String text = Check.times("x;", ahead) + act;
                FourAPole x = Check.text(Edge.some(), text);
                int answer = x.show();
                Check.due(text, answer >= 0 ? 0 : answer, text.length() <= 60 ? 0 : -61);
                Check.due(text + ": ROUNDS", x.count(3), text.length() <= 60 ? 0 : 3);
            }
        }
        Edge.changesTextAlone("a wrong sign at 59", Edge::some, Check.times("x;", 29) + "xxx", -60, FourAPole::show);
        Edge.changesTextAlone("a wrong sign at 60", Edge::some, Check.times("x;", 27) + "r000*1q", -61, FourAPole::show);
        Edge.changesTextAlone("a wrong sign at 61", Edge::some, Check.times("x;", 27) + "r000*1;q", -61, FourAPole::show);
        Edge.changesTextAlone("80 signs", Edge::some, Check.times("t00:1+1;", 10), -61, FourAPole::show);
    }

    private static void showTextsDoNothing() {
        String[] texts = {"q", "t00:1+1;q", "t00:1+1;x;r000*", "x;x;x;", "t00:1+1;t00:1+12345", "r000*1;r000*"};
        int[] at = {0, 8, 15, 6, 18, 12};
        for (int i = 0; i < texts.length; i++) {
            Edge.changesTextAlone("nothing is done", Edge::some, texts[i], -1 - at[i], FourAPole::show);
            Edge.changesTextAlone("nothing is done", Edge::full, texts[i], -1 - at[i], FourAPole::show);
        }
        FourAPole x = Edge.some();
        Check.due("an empty one", Check.text(x, "").show(), 0);
        Check.rowIs("an empty one", x, 0, 3);
        Check.due("an empty one: to undo", x.count(5), 3);
        x = Edge.full();
        Check.due("an empty one with 12", Check.text(x, "").show(), 0);
        Check.rowIs("an empty one with 12", x, 0, 12);
        Check.due("an empty one with 12: to undo", x.count(5), 12);
        x = Edge.none();
        Check.due("an empty one with none", x.show(), 0);
        Check.rowIs("an empty one with none", x, 0, 0);
    }

    private static void act(Edge.Maker maker, String act, boolean can) {
        FourAPole x = maker.make();
        int rounds = x.count(3);
        int undos = x.count(5);
        Check.due("ACT " + act, Check.text(x, act).show(), can ? 1 : 0);
        Check.rowIs("ACT " + act, x, can ? 0 : 1, can ? rounds + 1 : rounds);
        Check.due("ACT " + act + ": to undo", x.count(5), can ? Math.min(12, undos + 1) : undos);
        x = maker.make();
        Check.due("ACT " + act + " and x", Check.text(x, act + ";x").show(), can ? 2 : 0);
        Check.rowIs("ACT " + act + " and x", x, can ? 0 : 1, rounds);
    }

    private static void showActs() {
        for (int digit = 0; digit <= 9; digit++) {
            act(Edge::some, "r" + digit + "00*0", digit <= 5);
            act(Edge::some, "r0" + digit + "0*0", digit <= 1);
            act(Edge::some, "r00" + digit + "*0", digit <= 1);
            act(Edge::some, "r000*" + digit, true);
            act(Edge::some, "t" + digit + "0:0+0", digit <= 5);
            act(Edge::some, "t0" + digit + ":0+0", digit <= 1);
            act(Edge::roomy, "r" + digit + "00*0", digit <= 5);
            act(Edge::roomy, "r0" + digit + "0*0", digit <= 5);
            act(Edge::roomy, "r00" + digit + "*0", digit <= 5);
            act(Edge::roomy, "t" + digit + "0:0+0", digit <= 5);
            act(Edge::roomy, "t0" + digit + ":0+0", digit <= 5);
        }
        String[] results = {"0+0", "00+0000", "1+1", "9+9", "10+10", "98+9998", "99+9999", "09+0099", "7+100", "7+1000"};
        for (String result : results) {
            FourAPole x = Edge.some();
            Check.text(x, "t51:" + result).show();
            String[] two = result.split("\\+");
            Check.due("FAULTS of " + result, x.round(3, 2), Integer.parseInt(two[0]));
            Check.due("TENTHS of " + result, x.round(3, 3), Integer.parseInt(two[1]));
            Check.due("RIDER and HORSE of " + result, x.round(3, 0) * 10 + x.round(3, 1), 51);
        }
        for (int seed = 0; seed <= 9; seed++) {
            FourAPole x = Edge.some();
            int look = x.look(1, 1, seed);
            long tenths = x.row(0);
            Check.text(x, "r511*" + seed).show();
            Check.due("FAULTS by seed " + seed, x.round(3, 2), look);
            Check.due("TENTHS by seed " + seed, x.round(3, 3), tenths);
            Check.rowIs("the ROW is the show's", x, 0, 4);
        }
    }

    private static void showTillFull() {
        for (int room = 0; room <= 3; room++) {
            for (String act : new String[] {"t00:0+0", "r000*1"}) {
                FourAPole x = Edge.full();
                for (int i = 0; i < room; i++) {
                    x.undo();
                }
                int undos = x.count(5);
                Check.due("two with room for " + room, Check.text(x, act + ";" + act).show(), Math.min(2, room));
                Check.rowIs("two with room for " + room, x, room < 2 ? 1 : 0, Math.min(12, 12 - room + 2));
                Check.due("two with room for " + room + ": to undo", x.count(5), room == 0 ? undos : undos + 1);
            }
        }
        FourAPole x = Edge.full();
        Check.due("struck, there is room again", Check.text(x, "x;t00:0+0;t00:0+0;x").show(), 2);
        Check.rowIs("struck, there is room again", x, 1, 12);
    }

    private static void showStrikes() {
        for (int strikes = 1; strikes <= 5; strikes++) {
            FourAPole x = Edge.some();
            String text = "x" + Check.times(";x", strikes - 1);
            Check.due(text + " of 3", Check.text(x, text).show(), Math.min(3, strikes));
            Check.rowIs(text + " of 3", x, strikes > 3 ? 1 : 0, Math.max(0, 3 - strikes));
            Check.due(text + " of 3: undone", x.undo(), 3);
            Check.due(text + " of 3: all are back", x.count(3), 3);
            Check.due(text + " of 3: the last is back", x.round(2, 3), 100);
        }
        FourAPole none = Edge.none();
        Check.due("no ROUND to be struck", Check.text(none, "x").show(), 0);
        Check.rowIs("no ROUND to be struck", none, 1, 0);
        Check.due("no ROUND to be struck: nothing to undo", none.undo(), -1);
    }

    private static void undoOfSoMany() {
        for (int deeds = 0; deeds <= 30; deeds++) {
            FourAPole x = Check.course("u0@13", "900000", "a");
            for (int i = 0; i < deeds; i++) {
                // Told and struck by turns, so that the TABLE is never full.
                if (i % 2 == 0) {
                    x.told(0, 0, 0, i);
                } else {
                    Check.text(x, "x").show();
                }
            }
            int can = Math.min(12, deeds);
            Check.due(deeds + " deeds: can be undone", x.count(5), can);
            for (int i = 1; i <= can; i++) {
                Check.due(deeds + " deeds: left after " + i, x.undo(), can - i);
                int left = deeds - i;
                Check.due(deeds + " deeds: ROUNDS after " + i, x.count(3), left % 2);
                if (left % 2 == 1) {
                    Check.due(deeds + " deeds: the ROUND after " + i, x.round(0, 3), left - 1);
                }
                Check.due(deeds + " deeds: count after " + i, x.count(5), can - i);
            }
            Check.due(deeds + " deeds: no more", x.undo(), -1);
            Check.due(deeds + " deeds: what is left", x.count(3), (deeds - can) % 2);
        }
    }

    private static void undoOfMixed() {
        FourAPole x = Edge.some();
        Check.due("ride", x.ride(3, 1, 1, 5) >= 0, true);
        Check.due("show of two", Check.text(x, "t41:7+77;x").show(), 2);
        Check.due("show of none", Check.text(x, "r900*1").show(), 0);
        Check.due("told refused", x.told(6, 0, 0, 0), -1);
        Check.due("ride refused", x.ride(0, 2, 0, 0), -1);
        Check.due("an empty show", Check.text(x, "").show(), 0);
        Check.due("a show that can't stand", Check.text(x, "q").show(), -1);
        x.look(0, 0, 1);
        x.raise(0, 9);
        x.allow(7);
        Check.text(x, "9").prizes();
        x.keep(0);
        Check.due("only what was done counts", x.count(5), 5);
        Check.due("the show", x.undo(), 4);
        Check.due("the show: ROUNDS", x.count(3), 4);
        Check.due("the ride", x.undo(), 3);
        Check.due("the ride: ROUNDS", x.count(3), 3);
        Check.due("THE TABLE alone goes back: HEIGHT", x.fence(0, 1), 9);
        Check.due("THE TABLE alone goes back: ALLOWED", x.count(4), 7);
        Check.due("THE TABLE alone goes back: MONEY", x.count(8), 9);
        Check.due("THE TABLE alone goes back: kept", x.again(0), true);
        Check.due("kept as it was then", x.count(3), 4);
        FourAPole stuck = Edge.full();
        Check.due("-2 is not done", stuck.told(0, 0, 0, 0), -2);
        Check.due("-2 is not done either", stuck.ride(0, 0, 0, 0), -2);
        Check.due("a show that is stuck at once", Check.text(stuck, "t00:0+0").show(), 0);
        Check.due("twelve still", stuck.count(5), 12);
        for (int i = 11; i >= 0; i--) {
            Check.due("back to the first", stuck.undo(), i);
        }
        Check.due("none is left", stuck.count(3), 0);
    }

    private static void undoForgets() {
        FourAPole x = Edge.some();
        Check.due("again of nothing kept", x.again(0), false);
        Check.due("again of 2", x.again(2), false);
        Check.due("a RING that can't stand", Check.text(x, "u3").ring(), -3);
        Check.due("refused, they forget nothing", x.count(5), 3);
        Check.due("again", x.again(1), true);
        Check.due("again forgets", x.count(5), 0);
        Check.due("nothing to undo", x.undo(), -1);
        Check.due("THE TABLE stays then", x.count(3), 1);
        x.told(0, 0, 0, 1);
        Check.due("a RING", Check.text(x, "u1@10").ring(), 1);
        Check.due("a RING forgets", x.count(5), 0);
        Check.due("nothing to undo by a RING", x.undo(), -1);
        Edge.changesNothing("nothing to undo", Edge::none, -1, FourAPole::undo);
    }

    private static void rounds() {
        for (int n = 0; n <= 12; n++) {
            FourAPole x = Check.course("u0@13", "900000");
            for (int i = 0; i < n; i++) {
                x.told(i % 6, 0, 5, 50);
            }
            int last = n - 1;
            int behind = n;
            if (n > 0) {
                Check.due("the last of " + n + " equal ones", x.round(last, 4), n);
                Check.due("the first of " + n + " equal ones", x.round(0, 4), 1);
                Check.due("MONEY of the last of " + n, x.round(last, 5), n <= 6 ? new int[] {50, 30, 20, 10, 5, 5}[last] : 0);
                Check.throwsNoSuch("what 6", () -> x.round(last, 6));
                Check.throwsNoSuch("what -1", () -> x.round(last, -1));
            }
            Check.throwsNoSuch("ROUND " + n + " of " + n, () -> x.round(behind, 0));
            Check.throwsNoSuch("ROUND -1", () -> x.round(-1, 0));
        }
    }

    private static void tables() {
        for (int n = 0; n <= 12; n++) {
            FourAPole x = Check.course("u0@13", "900000");
            long[] up = new long[n];
            for (int i = 0; i < n; i++) {
                x.told(0, 0, i % 2, 12 - i / 2);
            }
            // Those with 0 FAULTS are the even ones, the latest of them the quickest.
            int k = 0;
            for (int odd = 0; odd < 2; odd++) {
                for (int i = n - 1; i >= 0; i--) {
                    if (i % 2 == odd) {
                        up[k++] = i;
                    }
                }
            }
            Check.due("no FAULTS of " + n, x.table(), (n + 1) / 2);
            Check.rowIs("by places of " + n, x, up);
        }
        FourAPole x = Check.course("u0@13", "900000");
        int[][] results = {{1, 100}, {0, 101}, {0, 100}, {1, 99}, {0, 100}, {0, 99}, {99, 0}, {98, 9999}, {99, 9999}, {99, 9998}};
        for (int[] r : results) {
            x.told(0, 0, r[0], r[1]);
        }
        Check.due("FAULTS, then TENTHS, then order", x.table(), 4);
        Check.rowIs("FAULTS, then TENTHS, then order", x, 5, 2, 4, 1, 3, 0, 7, 6, 9, 8);
    }

    private static void places() {
        FourAPole x = Check.course("u0@13", "900000");
        x.told(0, 0, 5, 500);
        int[][] want = {{0, 0, 1}, {0, 9999, 1}, {4, 9999, 1}, {5, 0, 1}, {5, 499, 1}, {5, 500, 2}, {5, 501, 2}, {5, 9999, 2}, {6, 0, 2}, {99, 9999, 2}};
        for (int[] w : want) {
            Check.due("place(" + w[0] + ", " + w[1] + ")", x.place(w[0], w[1]), w[2]);
            Check.rowIs("place(" + w[0] + ", " + w[1] + ")", x, w[2] == 1 ? 50 : 30);
        }
        int[] money = {50, 30, 20, 10, 5, 5, 0, 0, 0, 0, 0, 0, 0};
        FourAPole more = Check.course("u0@13", "900000");
        for (int n = 0; n <= 12; n++) {
            Check.due("behind " + n, more.place(99, 9999), n + 1);
            Check.rowIs("behind " + n, more, money[n]);
            Check.due("ahead of " + n, more.place(0, 0), 1);
            more.told(0, 0, 1, 1);
        }
        Check.due("twelve stay", more.count(3), 12);
    }

    private static void beats() {
        for (int n = 0; n <= 12; n++) {
            FourAPole x = Check.course("u0@13", "900000");
            Check.text(x, "60,50,40,30,20,10").prizes();
            for (int i = 0; i < n; i++) {
                x.told(0, 0, 0, 100 + 10 * i);
            }
            for (int place = 1; place <= 12; place++) {
                int want = place <= n ? 99 + 10 * (place - 1) : 9999;
                int has = place <= n ? place : n + 1;
                Check.due("beat(" + place + ") of " + n, x.beat(place), want);
                Check.rowIs("beat(" + place + ") of " + n, x, has <= 6 ? 70 - 10 * has : 0);
                x.place(0, want);
                Check.due("with so many it has that place or a better one", x.place(0, want) <= place, true);
                Check.due("with one more it has not", want == 9999 || x.place(0, want + 1) > place, true);
            }
            Check.due("place 0", x.beat(0), -1);
            Check.due("place 13", x.beat(13), -1);
        }
        for (int n = 1; n <= 12; n++) {
            FourAPole x = Check.course("u0@13", "900000");
            for (int i = 0; i < n; i++) {
                x.told(0, 0, 0, 0);
            }
            x.place(0, 0);
            for (int place = 1; place <= 12; place++) {
                Check.due("beat(" + place + ") of " + n + " in 0", x.beat(place), place <= n ? -2 : 9999);
            }
        }
        Edge.changesNothing("with none", () -> {
            FourAPole x = Check.course("u0@13", "900000");
            x.told(0, 0, 0, 0);
            return x;
        }, -2, x -> x.beat(1));
        int[][] one = {{1, 0}, {2, 1}, {9998, 9997}, {9999, 9998}};
        for (int[] o : one) {
            FourAPole x = Check.course("u0@13", "900000");
            x.told(0, 0, 0, o[0]);
            Check.due("ahead of " + o[0], x.beat(1), o[1]);
            Check.due("behind " + o[0], x.beat(2), 9999);
        }
        FourAPole late = Check.course("u0@13", "900000");
        late.told(0, 0, 1, 0);
        Check.due("one with a FAULT is beaten by all", late.beat(1), 9999);
        Check.rowIs("one with a FAULT is beaten by all", late, 50);
    }

    private static void lawSpans() {
        for (int n : new int[] {1, 2, 3, 39, 40, 41, 998, 999}) {
            for (int over : new int[] {-1, 0, 1, n - 1, n, n + 1, 2 * n - 1, 2 * n, 2 * n + 1}) {
                FourAPole x = Check.course("u0@13", "900000");
                x.allow(100);
                x.told(0, 0, 0, 100 + over);
                x.told(0, 0, 1, 0);
                x.told(0, 0, 2, 0);
                int begun = over <= 0 ? 0 : over <= n ? 1 : over <= 2 * n ? 2 : 3;
                String what = "law(" + n + ", 1) for " + over + " above";
                Check.due(what, x.law(n, 1), begun == 0 ? 0 : begun == 1 ? 2 : 3);
                long[][] rows = {{0, 1, 2}, {1, 0, 2}, {1, 2, 0}, {1, 2, 0}};
                Check.rowIs(what, x, rows[begun]);
            }
        }
    }

    private static void lawFaults() {
        for (int m = 0; m <= 9; m++) {
            FourAPole x = Check.course("u0@13", "900000");
            x.allow(100);
            x.told(0, 0, 0, 101);
            x.told(0, 0, m, 0);
            x.told(0, 0, m + 1, 0);
            Check.due("m " + m, x.law(40, m), m == 0 ? 0 : 2);
            Check.rowIs("m " + m, x, 1, 0, 2);
        }
        for (int faults = 0; faults <= 5; faults++) {
            FourAPole x = Check.course("u0@13", "900000");
            x.allow(100);
            // 80 above: 2 for time; what is left is held against 0, 1 and 2.
            x.told(0, 0, faults, 180);
            x.told(0, 0, 0, 181);
            x.told(0, 0, 1, 101);
            x.told(0, 0, 3, 179);
            // Without faults for time these have 0 (of -3), 0 and 1.
            int others = Math.max(0, faults - 2);
            x.law(1, 0);
            long[][] rows = {{2, 0, 1, 3}, {2, 1, 3, 0}, {2, 1, 3, 0}, {2, 1, 3, 0}};
            Check.rowIs("others of " + faults, x, rows[others]);
        }
        FourAPole most = Check.course("u0@13", "900000");
        most.allow(0);
        most.told(0, 0, 99, 9999);
        most.told(0, 0, 0, 9999);
        Check.due("the most of all", most.law(1, 9), 2);
        Check.rowIs("the most of all", most, 0, 1);
        most.allow(9999);
        Check.due("nothing above ALLOWED", most.law(1, 9), 0);
        Check.rowIs("nothing above ALLOWED", most, 1, 0);
        for (int[] b : new int[][] {{0, 1}, {1000, 1}, {1, -1}, {1, 10}, {-1, 1}}) {
            Edge.changesNothing("no such law", Edge::some, -1, x -> x.law(b[0], b[1]));
        }
        FourAPole none = Edge.none();
        Check.due("no ROUNDS", none.law(999, 9), 0);
        Check.rowIs("no ROUNDS", none);
    }
}
