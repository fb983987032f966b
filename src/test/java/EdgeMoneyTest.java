/** Promises 35 to 40 at their boundaries: the sixth place and the seventh, no PLANS, one HORSE, one sign too few or too many, just as much. */
public final class EdgeMoneyTest {
    private static final int[] MONEY = {50, 30, 20, 10, 5, 5, 0, 0, 0, 0, 0, 0, 0};

    private EdgeMoneyTest() {
    }

    public static void main(String[] args) {
        means();
        meansByTime();
        lasts();
        buys();
        playerSigns();
        playersRefused();
        games();
        gamesOfEqualOnes();
        gamesByTime();
        gamesOfSixPlans();
        lots();
        shares();
        sharesOfJustAsMuch();
        Check.end("EdgeMoneyTest");
    }

    /** HORSE 0 is clear for sure by PLAN 0 (60 TENTHS), to 7 of 10 by PLAN 1 (30); HORSE 1 to 5 and 2 of 10. */
    private static FourAPole two() {
        FourAPole x = Check.course("u0@40", "400000;450000", "a", "d");
        Check.text(x, "s*10+p*10").rule();
        return x;
    }

    private static FourAPole noPlans() {
        FourAPole x = Check.course("u0@40", "400000;450000");
        x.told(0, 0, 0, 5);
        x.place(0, 7);
        return x;
    }

    private static void means() {
        FourAPole x = two();
        for (int n = 0; n <= 12; n++) {
            Check.due("behind " + n, x.mean(0, 0), 10000 * MONEY[n]);
            Check.rowIs("behind " + n, x, MONEY[n], MONEY[n]);
            x.told(0, 0, 0, 0);
        }
        x = two();
        Check.text(x, "99,1").prizes();
        x.told(0, 0, 0, 60);
        Check.due("as quick is behind", x.mean(0, 0), 10000);
        Check.rowIs("as quick is behind", x, 1, 1);
        x.undo();
        x.told(0, 0, 0, 61);
        Check.due("one quicker is ahead", x.mean(0, 0), 990000);
        Check.rowIs("one quicker is ahead: with 4 it is not", x, 99, 1);
        x.undo();
        x.told(0, 0, 4, 60);
        Check.due("as quick with 4 is behind", x.mean(1, 0), 5000 * 99 + 5000);
        x.undo();
        x.told(0, 0, 4, 61);
        Check.due("one quicker with 4 is ahead", x.mean(1, 0), 990000);
        Check.text(x, "0").rule();
        Check.due("never not CLEAR", x.mean(1, 0), 990000);
        Check.text(x, "100").rule();
        x.told(0, 0, 3, 9999);
        Check.due("never CLEAR", x.mean(1, 0), 10000);
        Check.rowIs("never CLEAR", x, 99, 1);
    }

    /** FAULTS for time by ALLOWED: 60 TENTHS by PLAN 0. */
    private static void meansByTime() {
        int[][] want = {{61, 0}, {60, 0}, {59, 1}, {21, 1}, {20, 1}, {19, 2}, {0, 2}};
        for (int[] w : want) {
            FourAPole x = two();
            x.allow(w[0]);
            // One ROUND of each FAULTS, later in none: the place tells how many the thought one has.
            for (int faults = 0; faults <= 5; faults++) {
                x.told(0, 0, faults, 60);
            }
            Check.due("with " + w[0] + " ALLOWED", x.mean(1, 0), 5000 * (MONEY[w[1] + 1] + MONEY[Math.min(4 + w[1], 5) + 1]));
            Check.rowIs("with " + w[0] + " ALLOWED", x, MONEY[w[1] + 1], MONEY[Math.min(4 + w[1], 5) + 1]);
        }
    }

    private static void lasts() {
        Edge.changesNothing("no PLANS", EdgeMoneyTest::noPlans, -2, x -> x.last(0));
        Edge.changesNothing("no PLANS, the last HORSE", EdgeMoneyTest::noPlans, -2, x -> x.last(1));
        Edge.changesNothing("no PLANS, no such HORSE", EdgeMoneyTest::noPlans, -1, x -> x.last(2));
        Edge.changesNothing("no PLANS, HORSE -1", EdgeMoneyTest::noPlans, -1, x -> x.last(-1));
        FourAPole one = Check.course("u0@40", "400000", "a");
        Check.due("one PLAN", one.last(0), 0);
        Check.rowIs("one PLAN", one, 500000);
        for (int best = 0; best < 6; best++) {
            FourAPole x = Check.course("u0@40;u0@40", "400000", "aa", "ab", "ac", "ad", "ba", "bb");
            // By TENTHS 120, 110, 100, 90, 110, 100: only what stands at the best is not feared.
            String[] rules = {"(p>0)*50", "(k=0)*p*50+(k=1)*((p=1)=0)*50", "(k=1)*((p=2)=0)*50", "(k=1)*((p=3)=0)*50",
                "(k=0)*((p=1)=0)*50+(k=1)*p*50", "((p=1)=0)*50"};
            String rule = rules[best];
            Check.due("rule " + rule, Check.text(x, rule).rule(), 0);
            x.told(0, 0, 1, 0);
            Check.due("the best is " + best, x.last(0), best);
            Check.rowIs("the best is " + best, x, 500000);
        }
        FourAPole equal = two();
        Check.text(equal, "0").prizes();
        Check.due("nothing to win: the first", equal.last(1), 0);
        Check.rowIs("nothing to win: the first", equal, 0);
    }

    private static void buys() {
        Edge.changesNothing("no PLANS", EdgeMoneyTest::noPlans, -2, FourAPole::buy);
        Edge.changesNothing("no HORSES", () -> Check.course("u0@40", "", "a"), -2, FourAPole::buy);
        Edge.changesNothing("neither", Edge::none, -2, FourAPole::buy);
        FourAPole one = Check.course("u0@40", "400000", "a");
        Check.due("one HORSE", one.buy(), 0);
        Check.rowIs("one HORSE: no second", one, 500000, 0, -1);
        for (int best = 0; best < 6; best++) {
            StringBuilder horses = new StringBuilder();
            for (int i = 0; i < 6; i++) {
                horses.append(i > 0 ? ";" : "").append(i == best ? "400000" : i == (best + 3) % 6 ? "410000" : "420000");
            }
            FourAPole x = Check.course("u0@40", horses.toString(), "a", "b");
            Check.text(x, "s*10").rule();
            x.told(0, 0, 0, 1000);
            Check.due("the best is HORSE " + best, x.buy(), best);
            Check.rowIs("the best is HORSE " + best, x, 500000, 0, 9000 * 50 + 1000 * 30);
        }
        FourAPole equal = Check.course("u0@40", "420000;400000;400000", "a");
        Check.text(equal, "s*10").rule();
        equal.told(0, 0, 0, 1000);
        Check.due("of equal ones the first", equal.buy(), 1);
        Check.rowIs("of equal ones the first: the second wins as much", equal, 500000, 0, 500000);
        Check.text(equal, "0").prizes();
        Check.due("nothing to win", equal.buy(), 0);
        Check.rowIs("nothing to win: a second there is", equal, 0, 0, 0);
    }

    private static FourAPole herd(int n) {
        return Check.course("u0@40", Edge.horses(n), "a");
    }

    private static void playerSigns() {
        for (int n = 0; n <= 6; n++) {
            int horses = n;
            String allowed = Edge.DIGITS.substring(0, n);
            Edge.signsBehind("", allowed, () -> herd(horses), FourAPole::game);
            Edge.signsBehind("", allowed, () -> herd(horses), FourAPole::lot);
            Edge.signsBehind("", allowed, () -> herd(horses), x -> x.share(1));
            if (n > 0) {
                String last = Integer.toString(n - 1);
                Edge.signsBehind(last, allowed, () -> herd(horses), FourAPole::game);
                Edge.signsBehind(last, allowed, () -> herd(horses), FourAPole::lot);
                Edge.signsBehind(last, allowed, () -> herd(horses), x -> x.share(5));
                Edge.signsBehind("0" + last, allowed, () -> herd(horses), FourAPole::game);
                Edge.signsBehind("0" + last, allowed, () -> herd(horses), FourAPole::lot);
                Edge.signsBehind("0" + last, "", () -> herd(horses), x -> x.share(1));
                Edge.signsBehind("00" + last, "", () -> herd(horses), FourAPole::game);
                Edge.signsBehind("00" + last, "", () -> herd(horses), FourAPole::lot);
            }
        }
        Edge.beginnings("010", "1 2 3", () -> herd(2), FourAPole::game, 0, 0, 0);
        for (int size = 0; size <= 80; size++) {
            String text = Check.times("0", size);
            FourAPole x = Check.text(herd(1), text);
            Check.due("a game of " + size, x.game(), size == 0 ? -1 : size <= 3 ? 0 : -4);
            x = Check.text(herd(1), text);
            Check.due("a lot of " + size, x.lot(), size < 2 ? -1 - size : size <= 3 ? 0 : -4);
            x = Check.text(herd(1), text);
            int shared = x.share(1);
            Check.due("to share by " + size, shared, size < 2 ? -1 - size : size == 2 ? 0 : -3);
        }
    }

    private static void playersRefused() {
        String[] texts = {"", "0", "00", "000", "0000", "x", "2", "0x", Check.times("0", 80)};
        for (String text : texts) {
            Edge.changesTextAlone("game without PLANS", EdgeMoneyTest::noPlans, text, -100, FourAPole::game);
            Edge.changesTextAlone("lot without PLANS", EdgeMoneyTest::noPlans, text, -100, FourAPole::lot);
            for (int n : new int[] {Edge.MIN, -1, 0, 1, 5, 6, Edge.MAX}) {
                Edge.changesTextAlone("share(" + n + ") without PLANS", EdgeMoneyTest::noPlans, text, -100, x -> x.share(n));
            }
            for (int n : new int[] {Edge.MIN, -1, 0, 6, 7, Edge.MAX}) {
                Edge.changesTextAlone("share(" + n + ")", Edge::some, text, -200, x -> x.share(n));
                Edge.changesTextAlone("share(" + n + ") with one PLAN", () -> herd(1), text, -200, x -> x.share(n));
                Edge.changesTextAlone("share(" + n + ") with all there", Edge::full, text, -200, x -> x.share(n));
            }
        }
        String[] bad = {"", "2", "02", "012", "0000", "x", "0 ", "00/"};
        int[] game = {-1, -1, -2, -3, -4, -1, -2, -3};
        int[] lot = {-1, -1, -2, -3, -4, -1, -2, -3};
        int[] share = {-1, -1, -2, -3, -3, -1, -2, -3};
        for (int i = 0; i < bad.length; i++) {
            Edge.changesTextAlone("game", Edge::some, bad[i], game[i], FourAPole::game);
            Edge.changesTextAlone("lot", Edge::some, bad[i], lot[i], FourAPole::lot);
            Edge.changesTextAlone("share", Edge::some, bad[i], share[i], x -> x.share(1));
            Edge.changesTextAlone("share of the last", Edge::some, bad[i], share[i], x -> x.share(5));
        }
        Edge.changesTextAlone("lot of one", Edge::some, "0", -2, FourAPole::lot);
        Edge.changesTextAlone("share of one", Edge::some, "1", -2, x -> x.share(1));
        Edge.changesTextAlone("share of three", Edge::some, "010", -3, x -> x.share(1));
        Edge.changesTextAlone("HORSE 6 of 6", Edge::full, "56", -2, FourAPole::game);
    }

    private static void games() {
        FourAPole x = two();
        for (int n = 0; n <= 12; n++) {
            Check.due("one behind " + n, Check.text(x, "0").game(), 0);
            Check.rowIs("one behind " + n, x, MONEY[n], 1);
            Check.due("two behind " + n, Check.text(x, "00").game() >= 0, true);
            Check.due("two behind " + n + ": numbers", x.count(6), 4);
            Check.due("three behind " + n, Check.text(x, "000").game() >= 0, true);
            Check.due("three behind " + n + ": numbers", x.count(6), 6);
            if (n >= 6) {
                Check.rowIs("nothing is left for three", x, 0, 1, 0, 1, 0, 1);
            }
            x.told(0, 0, 0, 0);
        }
        Check.due("twelve stay", x.count(3), 12);
        FourAPole sure = Check.course("u0@40", "400000", "a");
        Check.text(sure, "0").rule();
        Check.due("three for sure", Check.text(sure, "000").game(), 0);
        Check.rowIs("three for sure: in their order", sure, 50, 1, 30, 1, 20, 1);
        Check.text(sure, "100").rule();
        Check.due("three never clear", Check.text(sure, "000").game(), 0);
        Check.rowIs("three never clear: in their order", sure, 50, 1, 30, 1, 20, 1);
        sure.told(0, 0, 4, 60);
        Check.text(sure, "000").game();
        Check.rowIs("as quick as one that came: behind it", sure, 30, 1, 20, 1, 10, 1);
        Check.text(sure, "0").rule();
        Check.text(sure, "000").game();
        Check.rowIs("clear, ahead of it", sure, 50, 1, 30, 1, 20, 1);
        sure.told(0, 0, 0, 60);
        sure.told(0, 0, 0, 60);
        sure.told(0, 0, 0, 60);
        sure.told(0, 0, 0, 60);
        Check.text(sure, "000").game();
        Check.rowIs("the fifth place, the sixth, none", sure, 5, 1, 5, 1, 0, 1);
    }

    /** Halves: each of two by one PLAN is clear to 1 of 2; who came first is ahead of the like. */
    private static void gamesOfEqualOnes() {
        FourAPole x = Check.course("u0@40", "400000", "a", "a", "a");
        Check.text(x, "50").rule();
        Check.text(x, "12,8").prizes();
        Check.due("of equal PLANS the first", Check.text(x, "00").game(), 0);
        Check.rowIs("of equal PLANS the first", x, 11, 1, 9, 1);
        Check.text(x, "1").prizes();
        Check.text(x, "000").game();
        // The first wins but where it fails and another does not: 1 - 1/2 * 3/4; the second 1/4; the third 1/8.
        Check.rowIs("lowest terms", x, 5, 8, 1, 4, 1, 8);
        Check.text(x, "1").rule();
        Check.text(x, "000").game();
        Check.rowIs("terms of millions", x, 990001, 1000000, 99, 10000, 99, 1000000);
        Check.text(x, "99,99,99,99,99,99").prizes();
        Check.text(x, "000").game();
        Check.rowIs("the most of all", x, 99, 1, 99, 1, 99, 1);
    }

    /** HORSE 1 always has a pole down; HORSE 0 only where it is fast, so it must be slow, and late, to be clear. */
    private static void gamesByTime() {
        FourAPole x = Check.course("u0@99;u0@99", "400000;490000", "aa", "hh");
        Check.text(x, "(s=9)*100+(s=0)*(p=3)*100").rule();
        Check.text(x, "1").prizes();
        // 296 TENTHS by PLAN 0: 120 above cost 3 FAULTS, 121 cost 4, as many as a pole, and then TENTHS tell.
        int[][] want = {{9999, 0, 0, 1}, {296, 0, 0, 1}, {177, 0, 0, 1}, {176, 0, 0, 1}, {175, 1, 1, 0}, {100, 1, 1, 0}, {99, 1, 1, 0}, {0, 1, 1, 0}};
        for (int[] w : want) {
            x.allow(w[0]);
            Check.due("with " + w[0] + " ALLOWED", Check.text(x, "10").game(), w[1]);
            Check.rowIs("with " + w[0] + " ALLOWED", x, w[2], 1, w[3], 1);
            Check.due("with " + w[0] + " ALLOWED, to share", Check.text(x, "10").share(2), 0);
            Check.rowIs("with " + w[0] + " ALLOWED, to share", x, 0, w[2], 1, w[3], 1);
            Check.due("with " + w[0] + " ALLOWED, as a lot", Check.text(x, "10").lot(), 0);
            Check.rowIs("with " + w[0] + " ALLOWED, as a lot", x, w[2], 1);
        }
    }

    private static void gamesOfSixPlans() {
        for (int best = 0; best < 6; best++) {
            FourAPole x = Check.course("u0@40", "400000;490000", "a", "b", "c", "d", "g", "h");
            // Only by one letter it is clear for sure; by others never, and there is no MONEY then.
            String letter = best < 4 ? "(p=" + best + ")*(x=0)" : "(p=" + (best - 2) + ")*x";
            Check.due("rule", Check.text(x, "(" + letter + "=0)*100").rule(), 0);
            Check.text(x, "7").prizes();
            x.told(0, 0, 1, 0);
            Check.due("the best is " + best, Check.text(x, "0").game(), best);
            Check.rowIs("the best is " + best, x, 7, 1);
            Check.due("last() says so too", x.last(1), best);
        }
    }

    private static void lots() {
        FourAPole x = two();
        Check.text(x, "0").prizes();
        Check.due("nothing to win: the first of two", Check.text(x, "01").lot(), 0);
        Check.rowIs("nothing to win: the first of two", x, 0, 1);
        Check.due("nothing to win: the first of three", Check.text(x, "010").lot(), 0);
        Check.rowIs("nothing to win: the first of three", x, 0, 1);
        FourAPole sure = Check.course("u0@40", "400000", "a");
        Check.text(sure, "0").rule();
        String[] prizes = {"3,2,1", "2,3,1", "1,2,3", "2,1,3", "1,3,2", "3,3,3", "1,3,3"};
        int[] ofTwo = {0, 1, 1, 0, 1, 0, 1};
        int[] wonOfTwo = {3, 3, 2, 2, 3, 3, 3};
        int[] ofThree = {0, 1, 2, 2, 1, 0, 1};
        for (int i = 0; i < prizes.length; i++) {
            Check.text(sure, prizes[i]).prizes();
            Check.due("two for " + prizes[i], Check.text(sure, "00").lot(), ofTwo[i]);
            Check.rowIs("two for " + prizes[i], sure, wonOfTwo[i], 1);
            Check.due("three for " + prizes[i], Check.text(sure, "000").lot(), ofThree[i]);
            Check.rowIs("three for " + prizes[i], sure, 3, 1);
        }
        // HORSE 0 never falls, 1 always does: the others stay as told behind one another.
        FourAPole order = Check.course("u0@40", "400000;490000;410000", "a");
        Check.text(order, "(s=9)*100").rule();
        Check.text(order, "1,2,3").prizes();
        Check.due("the sure one had best be late", Check.text(order, "021").lot(), 1);
        Check.rowIs("the sure one had best be late", order, 2, 1);
        Check.due("the same told otherwise", Check.text(order, "012").lot(), 2);
        Check.rowIs("the same told otherwise", order, 2, 1);
        Check.due("the one that falls is last anyhow", Check.text(order, "102").lot(), 0);
        Check.rowIs("the one that falls is last anyhow", order, 3, 1);
    }

    private static void shares() {
        FourAPole x = Check.course("u0@40", "400000", "a");
        Check.text(x, "0").rule();
        Check.text(x, "1,2,4,8,16,32").prizes();
        for (int n = 1; n <= 5; n++) {
            int twice = 3 << n - 1;
            Check.due("the half from " + n, Check.text(x, "00").share(n), n == 1 ? 0 : 1);
            Check.rowIs("the half from " + n, x, twice, 1, 1, 2, 1);
        }
        FourAPole full = herd(2);
        for (int i = 0; i < 12; i++) {
            full.told(0, 0, 0, 0);
        }
        Check.due("with twelve there", Check.text(full, "01").share(5), 1);
        Check.rowIs("with twelve there", full, 10, 0, 1, 0, 1);
        Check.due("sharing leaves twelve", full.count(3), 12);
    }

    /** By halves the first wins 11 and the second 9 on the mean, or the other way round. */
    private static void sharesOfJustAsMuch() {
        FourAPole x = Check.course("u0@40", "400000", "a");
        Check.text(x, "50").rule();
        int[][] want = {{11, 12, 1}, {11, 11, 1}, {11, 10, 0}, {10, 11, 0}, {10, 10, 0}, {99, 99, 1}, {0, 0, 0}, {22, 0, 1}, {0, 21, 0}};
        for (int[] w : want) {
            Check.text(x, "12,8," + w[0] + "," + w[1]).prizes();
            Check.due("the first wants 11: " + w[0] + " and " + w[1], Check.text(x, "00").share(3), w[2]);
            Check.rowIs("the first wants 11: " + w[0] + " and " + w[1], x, w[0] + w[1], 11, 1, 9, 1);
            Check.text(x, "8,12," + w[0] + "," + w[1]).prizes();
            Check.due("the second wants 11: " + w[0] + " and " + w[1], Check.text(x, "00").share(3), w[2]);
            Check.rowIs("the second wants 11: " + w[0] + " and " + w[1], x, w[0] + w[1], 9, 1, 11, 1);
        }
    }
}
