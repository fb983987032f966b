/** Promises 41 to 46 at their boundaries: just CLEAR enough, the first FENCE and the last, HEIGHTS 0 and 9, parts of 4, all six HORSES. */
public final class EdgeBuildersTest {
    private EdgeBuildersTest() {
    }

    public static void main(String[] args) {
        throughJustSo();
        throughAll();
        builtAtEachFence();
        builtOfAsNearOnes();
        builtRefused();
        fair();
        parts();
        partsOfOthers();
        partsOfAsGoodOnes();
        riders();
        ridersOnAll();
        wind();
        windRefused();
        Check.end("EdgeBuildersTest");
    }

    /** CLEAR of HORSE i: 10000 less 1000 for each of SCOPE. */
    private static FourAPole scopes(String digits) {
        StringBuilder horses = new StringBuilder();
        for (int i = 0; i < digits.length(); i++) {
            horses.append(i > 0 ? ";" : "").append('4').append(digits.charAt(i)).append("0000");
        }
        FourAPole x = Check.course("u0@40", horses.toString(), "a");
        Check.text(x, "s*10").rule();
        return x;
    }

    private static void throughJustSo() {
        FourAPole x = scopes("012345");
        for (int i = 0; i < 6; i++) {
            int clear = 10000 - 1000 * i;
            Check.due("CLEAR " + clear, x.through(0, clear), (1 << i + 1) - 1);
            Check.rowIs("CLEAR " + clear, x, i + 1);
            Check.due("one less than " + clear, x.through(0, clear - 1), (1 << i + 1) - 1);
            Check.due("one more than " + clear, x.through(0, clear + 1), i == 0 ? -1 : (1 << i) - 1);
        }
        Check.due("nothing wanted", x.through(0, 0), 63);
        Check.rowIs("nothing wanted", x, 6);
        Check.due("10001", x.through(0, 10001), -1);
        Check.due("-1", x.through(0, -1), -1);
        Check.rowIs("refused: the ROW stays", x, 6);
    }

    private static void throughAll() {
        for (int n = 0; n <= 6; n++) {
            FourAPole x = Check.course("u0@40", Edge.horses(n), "a");
            Check.text(x, "100").rule();
            Check.due("none of " + n + " is ever CLEAR", x.through(0, 1), 0);
            Check.rowIs("none of " + n, x, 0);
            Check.due("all of " + n + " with 0", x.through(0, 0), (1 << n) - 1);
            Check.rowIs("all of " + n, x, n);
            Check.due("PLAN 1 of 1", x.through(1, 0), -1);
        }
        FourAPole noFences = Check.course("", "400000", "");
        Check.due("no FENCES", noFences.through(0, 10000), 1);
        Check.rowIs("no FENCES", noFences, 1);
        FourAPole six = Edge.full();
        Check.due("PLAN 5 of 6", six.through(5, 0), 63);
        Check.due("PLAN 6 of 6", six.through(6, 0), -1);
    }

    private static FourAPole eight(String rule, int horses) {
        FourAPole x = Check.course("u5@40" + Check.times(";u5@40", 7), Edge.horses(horses), "aaaaaaaa");
        Check.due("rule " + rule, Check.text(x, rule).rule(), 0);
        return x;
    }

    private static void built(FourAPole x, int v, int n, int fence, int height, int many) {
        String what = "built(0, " + v + ", " + n + ")";
        Check.due(what, x.built(0, v, n), fence);
        Check.rowIs(what, x, height, many);
    }

    private static void builtAtEachFence() {
        for (int fence = 0; fence < 8; fence++) {
            for (int height : new int[] {0, 1, 4, 6, 8, 9}) {
                FourAPole x = eight("(k=" + fence + ")*(h=" + height + ")*100", 6);
                built(x, 1, 0, fence, height, 0);
                FourAPole y = eight("(k=" + fence + ")*((h=" + height + ")=0)*100", 6);
                built(y, 1, 6, fence, height, 6);
                Check.due("nothing was changed", y.fence(fence, 1), 5);
            }
        }
        FourAPole same = eight("(h=5)*100", 6);
        built(same, 1, 6, -1, -1, 0);
        same = Check.course("u5@40", Edge.horses(6), "a");
        Check.text(same, "(h=5)*100").rule();
        built(same, 1, 6, 0, 0, 6);
        built(same, 1, 0, -1, -1, 0);
        built(same, 0, 6, -1, -1, 6);
        built(same, 0, 0, -1, -1, 6);
        // STRIDE 9 leans 4 there, so that five of six may refuse: only one is CLEAR for sure.
        built(same, 10000, 6, 0, 0, 1);
    }

    private static void builtOfAsNearOnes() {
        // HORSES through by HEIGHT: those whose SCOPE is no less, of SCOPES 1 to 6.
        FourAPole x = Check.course("u3@40;u3@40", "410000;420000;430000;440000;450000;460000", "aa");
        Check.text(x, "(h>s)*(k=1)*100").rule();
        // By HEIGHT of FENCE 1: 0, 1: 6; 2: 5; 3: 4; 4: 3; 5: 2; 6: 1; 7 and more: 0.
        int[][] want = {{0, 1, 7, 0}, {1, 1, 6, 1}, {2, 1, 5, 2}, {3, 1, 4, 3}, {4, -1, -1, 4}, {5, 1, 2, 5}, {6, 1, 0, 6}};
        for (int[] w : want) {
            built(x, 1, w[0], w[1], w[2], w[3]);
        }
        // Only 6 or 0 can be: 3 is as near to both, and nothing is changed; nearer to the other, that is taken.
        FourAPole both = Check.course("u3@40;u3@40", Edge.horses(6), "aa");
        Check.text(both, "(h>5)*100").rule();
        int[][] near = {{0, 0, 6, 0}, {1, 0, 6, 0}, {2, 0, 6, 0}, {3, -1, -1, 6}, {4, -1, -1, 6}, {5, -1, -1, 6}, {6, -1, -1, 6}};
        for (int[] w : near) {
            built(both, 1, w[0], w[1], w[2], w[3]);
        }
        both.raise(0, 9);
        int[][] fallen = {{0, -1, -1, 0}, {1, -1, -1, 0}, {2, -1, -1, 0}, {3, -1, -1, 0}, {4, 0, 0, 6}, {5, 0, 0, 6}, {6, 0, 0, 6}};
        for (int[] w : fallen) {
            built(both, 1, w[0], w[1], w[2], w[3]);
        }
        FourAPole few = Check.course("u3@40", Edge.horses(2), "a");
        Check.text(few, "(h>5)*100").rule();
        built(few, 1, 6, -1, -1, 2);
        built(few, 1, 2, -1, -1, 2);
        built(few, 1, 1, -1, -1, 2);
        built(few, 1, 0, 0, 6, 0);
        // CLEAR just so: 10 by each HEIGHT, 5000 at 5.
        FourAPole just = Check.course("u5@40", "400000", "a");
        Check.text(just, "h*10").rule();
        built(just, 5000, 1, -1, -1, 1);
        built(just, 5001, 1, 0, 0, 1);
        built(just, 4999, 0, 0, 6, 0);
        built(just, 5000, 0, 0, 6, 0);
        built(just, 5001, 0, -1, -1, 0);
        built(just, 1000, 0, -1, -1, 1);
        built(just, 1001, 0, 0, 9, 0);
    }

    private static void builtRefused() {
        int[][] bad = {{-1, 0, 0}, {2, 0, 0}, {0, -1, 0}, {0, 10001, 0}, {0, 0, -1}, {0, 0, 7}};
        for (int[] b : bad) {
            Edge.changesNothing("built of others", Edge::some, -2, x -> x.built(b[0], b[1], b[2]));
        }
        Edge.changesNothing("no PLAN", () -> Check.course("u0@40", "400000"), -2, x -> x.built(0, 0, 0));
        FourAPole none = Check.course("", "400000;500000", "");
        built(none, 10000, 0, -1, -1, 2);
        FourAPole noHorses = Check.course("u0@40", "", "a");
        built(noHorses, 10000, 6, -1, -1, 0);
    }

    private static void fair() {
        int[][] one = {{3, 12}, {4, 12}, {5, 10}, {6, 12}, {7, 14}, {8, 16}, {9, 18}};
        for (int[] o : one) {
            FourAPole x = Check.course("u0@40", o[0] + "00000");
            Check.due("STRIDE " + o[0], x.fair(0), o[1]);
            Check.rowIs("STRIDE " + o[0], x, 0, 0);
        }
        FourAPole far = Check.course("u0@40;u0@10;u0@99", "500000;600000;900000");
        for (int fence = 0; fence < 3; fence++) {
            Check.due("the same for each FENCE", far.fair(fence), 90);
            Check.rowIs("the same for each FENCE", far, 0, 0);
        }
        Check.due("FENCE 3 of 3", far.fair(3), -1);
        Check.due("FENCE -1", far.fair(-1), -1);
        // 55 by 5, 7, 8, 9: 0, 1, 1, 1; no FEET do better, 45 as 0, 3, 3, 0 do worse.
        FourAPole four = Check.course("u0@40", "500000;700000;800000;900000");
        Check.due("four that never fit", four.fair(0), 55);
        Check.rowIs("four that never fit", four, 3, 1);
        FourAPole two = Check.course("u0@40", "500000;500000;500000;600000;800000");
        Check.due("the most of one", two.fair(0), 25);
        Check.rowIs("the most of one", two, 2, 1);
        FourAPole six = Check.course("u0@40", "500000;500000;500000;700000;700000;800000");
        Check.due("six of them", six.fair(0), 70);
        Check.rowIs("six of them", six, 2, 2);
        FourAPole none = Check.course("u0@40", "");
        Check.due("no HORSES: the first", none.fair(0), 10);
        Check.rowIs("no HORSES: the first", none, 0, 0);
        Check.due("no FENCES", Check.course("", "400000").fair(0), -1);
    }

    private static FourAPole herd() {
        return Check.course("u0@40", "400000;400000;400000;400000;400000;400000");
    }

    private static void parts() {
        for (int faults = 0; faults <= 12; faults++) {
            FourAPole x = herd();
            x.told(2, 2, faults, 0);
            Check.due("one of " + faults, x.parts(), Math.max(0, faults - 8));
            Check.rowIs("one of " + faults, x, 0, 0, Math.min(4, Math.max(0, faults - 4)), 0, 0, Math.min(4, faults), 1);
        }
        FourAPole most = herd();
        for (int i = 0; i < 12; i++) {
            most.told(i % 3, i / 3 % 3, 99, 0);
        }
        Check.due("the most of all", most.parts(), 12 * 91);
        Check.rowIs("the most of all", most, 4, 4, 4, 4, 4, 4, 12);
        FourAPole nothing = herd();
        for (int i = 0; i < 12; i++) {
            nothing.told(i % 3, i / 3 % 3, 0, 0);
        }
        Check.due("no FAULTS", nothing.parts(), 0);
        Check.rowIs("no FAULTS", nothing, 0, 0, 0, 0, 0, 0, 12);
        FourAPole none = Edge.none();
        Check.due("no ROUNDS", none.parts(), 0);
        Check.rowIs("no ROUNDS", none, 0, 0, 0, 0, 0, 0, 0);
    }

    private static void partsOfOthers() {
        for (int rider = 0; rider < 6; rider++) {
            for (int horse = 0; horse < 6; horse++) {
                FourAPole x = herd();
                x.told(rider, horse, 9, 0);
                boolean counts = rider <= 2 && horse <= 2;
                Check.due("RIDER " + rider + ", HORSE " + horse, x.parts(), counts ? 1 : 0);
                long[] want = new long[7];
                if (counts) {
                    want[rider] = 4;
                    want[3 + horse] = 4;
                    want[6] = 1;
                }
                Check.rowIs("RIDER " + rider + ", HORSE " + horse, x, want);
            }
        }
    }

    private static void partsOfAsGoodOnes() {
        for (int faults = 0; faults <= 8; faults++) {
            FourAPole x = herd();
            x.told(0, 0, faults, 0);
            Check.due("the least row of " + faults, x.parts(), 0);
            Check.rowIs("the least row of " + faults, x, Math.max(0, faults - 4), 0, 0, Math.min(4, faults), 0, 0, 1);
        }
        FourAPole x = herd();
        x.told(0, 0, 3, 0);
        x.told(0, 0, 5, 0);
        // 3, 4 or 5 are as good: the least.
        Check.due("between 3 and 5", x.parts(), 2);
        Check.rowIs("between 3 and 5", x, 0, 0, 0, 3, 0, 0, 2);
        x.told(1, 0, 4, 0);
        Check.due("another RIDER", x.parts(), 2);
        Check.rowIs("another RIDER: with 3 it has 1", x, 0, 0, 0, 4, 0, 0, 3);
    }

    private static void riders() {
        FourAPole x = herd();
        x.told(0, 5, 0, 0);
        x.told(5, 5, 99, 0);
        Check.due("the first RIDER and the last, the last HORSE", x.riders(0, 5), 1);
        Check.rowIs("the first RIDER and the last, the last HORSE", x, -99, 1);
        Check.due("turned", x.riders(5, 0), 1);
        Check.rowIs("turned", x, 99, 1);
        Edge.changesNothing("none", Edge::some, -2, y -> y.riders(0, 1));
        for (int i = 0; i < 6; i++) {
            int same = i;
            Edge.changesNothing("like ones", Edge::some, -1, y -> y.riders(same, same));
        }
        int[][] bad = {{-1, 0}, {0, -1}, {6, 0}, {0, 6}, {-1, -1}, {6, 6}};
        for (int[] b : bad) {
            Edge.changesNothing("no such RIDER", Edge::some, -1, y -> y.riders(b[0], b[1]));
        }
        Check.due("no HORSES", Edge.none().riders(0, 1), -2);
        FourAPole apart = herd();
        for (int horse = 0; horse < 6; horse++) {
            apart.told(horse % 2, horse, 4, 0);
        }
        Check.due("never on the same HORSE", apart.riders(0, 1), -2);
        apart.told(1, 0, 4, 0);
        Check.due("once on the same HORSE", apart.riders(0, 1), 1);
        Check.rowIs("once on the same HORSE", apart, 0, 1);
    }

    private static void ridersOnAll() {
        FourAPole x = herd();
        for (int i = 0; i < 6; i++) {
            x.told(2, i, i + 1, 0);
            x.told(3, i, 0, 0);
        }
        Check.due("on six HORSES", x.riders(2, 3), 6);
        Check.rowIs("on six HORSES: 21 by 6", x, 7, 2);
        FourAPole eleven = herd();
        eleven.told(4, 0, 0, 0);
        for (int i = 0; i < 11; i++) {
            eleven.told(1, 0, i == 0 ? 1 : 0, 0);
        }
        Check.due("one against eleven", eleven.riders(1, 4), 1);
        Check.rowIs("one against eleven", eleven, 1, 11);
        Check.due("turned", eleven.riders(4, 1), 1);
        Check.rowIs("turned", eleven, -1, 11);
        FourAPole uneven = herd();
        int[][] told = {{0, 0, 1}, {0, 0, 0}, {0, 0, 0}, {1, 0, 0}, {0, 1, 1}, {1, 1, 0}, {1, 1, 0}, {1, 1, 1}, {1, 1, 1}, {1, 1, 1}, {0, 2, 7}, {2, 1, 9}};
        for (int[] t : told) {
            uneven.told(t[0], t[1], t[2], 0);
        }
        // 1 by 3 less 0, and 1 less 3 by 5: the mean of 1 by 3 and 2 by 5 is 11 by 30.
        Check.due("each HORSE counts alike", uneven.riders(0, 1), 2);
        Check.rowIs("each HORSE counts alike", uneven, 11, 30);
    }

    private static void wind(FourAPole x, int fence, int n, int m, int w, int want, long... row) {
        String what = "wind(" + fence + ", " + n + ", " + m + ", " + w + ")";
        Check.due(what, x.wind(fence, n, m, w), want);
        Check.rowIs(what, x, row);
    }

    private static void wind() {
        FourAPole x = scopes("555555");
        wind(x, 0, 0, 0, 0, 0, 1, 1, 1, 1);
        wind(x, 0, 0, 0, 100, 0, 1, 1, 1, 1);
        wind(x, 0, 0, 1, 0, 0, 1, 2, 1, 2);
        wind(x, 0, 1, 1, 0, 0, 1, 2, 1, 2);
        wind(x, 0, 1, 1, 1, 1, 1, 2, 51, 100);
        wind(x, 0, 0, 1, 1, 0, 1, 2, 49, 100);
        wind(x, 0, 1, 1, 49, 1, 1, 2, 99, 100);
        wind(x, 0, 1, 1, 50, 1, 1, 2, 1, 1);
        wind(x, 0, 1, 1, 51, 1, 1, 2, 1, 1);
        wind(x, 0, 1, 1, 100, 1, 1, 2, 1, 1);
        wind(x, 0, 0, 1, 100, 0, 1, 2, 0, 1);
        wind(x, 0, 6, 6, 100, 1, 1, 64, 1, 1);
        wind(x, 0, 5, 6, 100, 0, 3, 32, 0, 1);
        wind(x, 0, 0, 6, 0, 0, 1, 64, 1, 64);
        wind(x, 0, 3, 6, 0, 0, 5, 16, 5, 16);
        wind(x, 0, 6, 6, 1, 1, 1, 64, 17596287801L, 1000000000000L);
        // As likely with the wind as without: 1 of 2 by halves, and by 20 more is less likely; by 40 and 60, as likely.
        FourAPole turned = scopes("46");
        wind(turned, 0, 1, 2, 0, 0, 13, 25, 13, 25);
        wind(turned, 0, 1, 2, 1, 0, 13, 25, 2599, 5000);
        FourAPole just = scopes("44");
        wind(just, 0, 1, 2, 20, 0, 12, 25, 12, 25);
        wind(just, 0, 1, 2, 19, 1, 12, 25, 2419, 5000);
        wind(just, 0, 1, 2, 21, 0, 12, 25, 2379, 5000);
        // The first m HORSES, by PLAN 0 alone.
        FourAPole plans = Check.course("u0@40;u0@40", "410000;490000", "ad", "dd");
        Check.text(plans, "s*10+p*3").rule();
        wind(plans, 0, 1, 1, 10, 1, 1, 10, 1, 5);
        wind(plans, 1, 1, 1, 10, 1, 19, 100, 29, 100);
        // 19 and 99 of 100, then 20 and 100.
        wind(plans, 1, 1, 2, 1, 0, 4019, 5000, 4, 5);
    }

    private static void windRefused() {
        for (int m = 0; m <= 7; m++) {
            for (int horses = 0; horses <= 6; horses++) {
                FourAPole x = Check.course("u0@40", Edge.horses(horses), "a");
                boolean can = m <= horses;
                Check.due(m + " of " + horses + " HORSES", x.wind(0, 0, m, 5) >= 0, can);
                Check.due("all of " + m + " of " + horses, x.wind(0, m, m, 5) >= 0, can);
                Check.due("one more than " + m, x.wind(0, m + 1, m, 5), -1);
                Check.due("-1 of " + m, x.wind(0, -1, m, 5), -1);
            }
        }
        int[][] bad = {{-1, 0, 0, 0}, {3, 0, 0, 0}, {0, -1, 0, 0}, {0, 1, 0, 0}, {0, 0, -1, 0}, {0, 0, 3, 0}, {0, 0, 0, -1}, {0, 0, 0, 101}, {0, -1, -1, 0}};
        for (int[] b : bad) {
            Edge.changesNothing("wind of others", Edge::some, -1, x -> x.wind(b[0], b[1], b[2], b[3]));
        }
        Edge.changesNothing("no PLAN", () -> Check.course("u0@40", "400000"), -1, x -> x.wind(0, 0, 0, 0));
        Edge.changesNothing("no FENCE", () -> Check.course("", "400000", ""), -1, x -> x.wind(0, 0, 0, 0));
        Check.due("the last FENCE of 8, six of six", Edge.full().wind(7, 6, 6, 100) >= 0, true);
        Check.due("FENCE 8 of 8", Edge.full().wind(8, 6, 6, 100), -1);
    }
}
