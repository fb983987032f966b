/** Promises 18 to 24 at their boundaries: no FENCES, eight of them, no letters left to cut, just enough and one too few. */
public final class EdgePlansTest {
    private static final String EIGHT = "u0@99" + Check.times(";u0@99", 7);

    private EdgePlansTest() {
    }

    public static void main(String[] args) {
        fear();
        clearIsCut();
        falls();
        poles();
        cuts();
        cutsOfEqualOnes();
        curve();
        curveAtEachTenth();
        quick();
        quickAtEachFear();
        sure();
        refusalsCount();
        sumsThatCantBe();
        noFences();
        Check.end("EdgePlansTest");
    }

    private static FourAPole eight(String rule, String... plans) {
        FourAPole x = Check.course(EIGHT, "900000", plans);
        Check.due("rule " + rule, Check.text(x, rule).rule(), 0);
        return x;
    }

    private static void fear() {
        FourAPole x = eight("100", "aaaaaaaa");
        Check.due("all fall", x.fear(0, 0), 800);
        Check.rowIs("all fall", x, 1184, 0);
        Check.text(x, "0").rule();
        Check.due("none falls", x.fear(0, 0), 0);
        Check.rowIs("none falls", x, 1184, 10000);
        Check.text(x, "1").rule();
        Check.due("one of a hundred each", x.fear(0, 0), 8);
        Check.rowIs("one of a hundred each", x, 1184, 9222);
        Check.text(x, "99").rule();
        Check.due("all but one of a hundred each", x.fear(0, 0), 792);
        Check.rowIs("all but one of a hundred each: 10000, 100, 1, 0", x, 1184, 0);
        FourAPole most = Check.course("l0@13" + Check.times(";l0@13", 7), "900000", "aaaaaaaa");
        Check.text(most, "999").rule();
        Check.due("the most FEAR", most.fear(0, 0), 8 * 121);
        Check.rowIs("the most FEAR", most, 152, 0);
        for (int n = 0; n < 6; n++) {
            FourAPole y = Edge.full();
            Check.due("PLAN " + n + " is there", y.fear(5, n) >= 0, true);
        }
        Check.due("HORSE 6", Edge.full().fear(6, 0), -1);
        Check.due("PLAN 6", Edge.full().fear(0, 6), -1);
        Check.due("HORSE 2 of 2", Edge.some().fear(2, 0), -1);
        Check.due("PLAN 2 of 2", Edge.some().fear(0, 2), -1);
    }

    /** CLEAR by one FENCE with a refusal of 21 and a pole of some ODDS, each step cut. */
    private static void clearIsCut() {
        FourAPole x = Check.course("l0@13;l0@13", "900000", "aa");
        for (int odds = 0; odds <= 100; odds++) {
            Check.text(x, Integer.toString(odds)).rule();
            long clear = 10000;
            for (int i = 0; i < 2; i++) {
                clear = clear * 79 / 100;
                clear = clear * (100 - odds) / 100;
            }
            Check.due("FEAR with " + odds, x.fear(0, 0), 2 * (21 + odds));
            Check.rowIs("CLEAR with " + odds, x, 38, clear);
        }
        Check.text(x, "33").rule();
        x.fear(0, 0);
        // 7900, 5293, 4181 (of 4181.47), 2801 (of 2801.27).
        Check.rowIs("each step is cut", x, 38, 2801);
    }

    private static void falls() {
        for (int fence = 0; fence < 8; fence++) {
            FourAPole x = eight("50+(k=" + fence + ")", "aaaaaaaa");
            Check.due("one more at " + fence, x.falls(0, 0), fence);
            Check.rowIs("one more at " + fence, x, 51);
            Check.text(x, "50-(k=" + fence + ")").rule();
            Check.due("one less at " + fence, x.falls(0, 0), fence == 0 ? 1 : 0);
            Check.rowIs("one less at " + fence, x, 50);
            Check.text(x, "100+k").rule();
            Check.due("above 100 all are equal", x.falls(0, 0), 0);
            Check.rowIs("above 100 all are equal", x, 100);
            Check.text(x, "k-7").rule();
            Check.due("below 0 all are equal", x.falls(0, 0), 0);
            Check.rowIs("below 0 all are equal", x, 0);
        }
        FourAPole one = Check.course("u0@10", "300000", "a");
        Check.due("one FENCE", one.falls(0, 0), 0);
        Check.rowIs("one FENCE", one, 7);
        FourAPole none = Check.course("", "300000", "");
        Check.due("no FENCES", none.falls(0, 0), -2);
        Check.due("no FENCES: no ROW", none.count(6), 0);
        Edge.changesNothing("no FENCES", () -> Check.course("", "300000", ""), -2, x -> x.falls(0, 0));
        Edge.changesNothing("no FENCES, no such HORSE", () -> Check.course("", "300000", ""), -1, x -> x.falls(1, 0));
        Edge.changesNothing("no FENCES, no such PLAN", () -> Check.course("", "300000", ""), -1, x -> x.falls(0, 1));
    }

    private static void poles() {
        for (int fences = 1; fences <= 8; fences++) {
            String plan = Check.times("a", fences);
            FourAPole x = Check.course(Edge.ring(fences), "300000", plan);
            for (int odds : new int[] {0, 1, 99, 100}) {
                Check.text(x, Integer.toString(odds)).rule();
                long[] with = new long[9];
                with[0] = 10000;
                for (int i = 0; i < fences; i++) {
                    long[] then = new long[9];
                    for (int j = 0; j <= 8; j++) {
                        then[j] = with[j] * (100 - odds) / 100 + (j > 0 ? with[j - 1] * odds / 100 : 0);
                    }
                    with = then;
                }
                for (int n = 0; n <= 8; n++) {
                    Check.due(n + " poles of " + fences + " by " + odds, x.poles(0, 0, n), with[n]);
                }
            }
            Check.text(x, "100").rule();
            Check.due("all of " + fences, x.poles(0, 0, fences), 10000);
            Check.due("one less", x.poles(0, 0, fences - 1), 0);
            Check.due("9", x.poles(0, 0, 9), -1);
            Check.due("-1", x.poles(0, 0, -1), -1);
        }
        Edge.changesNothing("poles tell no ROW", Edge::some, 10000 * 88 / 100 * 84 / 100 * 92 / 100, x -> x.poles(0, 0, 0));
    }

    private static void cuts() {
        FourAPole all = eight("x", "hgfehgfe");
        Check.due("all are", all.cuts(0, 0), -2);
        Edge.changesNothing("all are", () -> Check.course("u0@40", "300000", "e"), -2, x -> x.cuts(0, 0));
        for (int fence = 0; fence < 8; fence++) {
            String plan = Check.times("h", fence) + "abcdabcd".charAt(fence) + Check.times("e", 7 - fence);
            FourAPole x = eight("x", plan);
            Check.due("all but " + fence, x.cuts(0, 0), fence);
            Check.rowIs("all but " + fence, x, 1, 24);
        }
        FourAPole none = eight("x*(8-k)", "abcdabcd");
        Check.due("none is", none.cuts(0, 0), 7);
        Check.rowIs("none is", none, 1, 24);
        Check.text(none, "100+x").rule();
        Check.due("no more than 100", none.cuts(0, 0), 0);
        Check.rowIs("no more than 100", none, 0, 24);
        Check.text(none, "100-x*100").rule();
        Check.due("the most below 0", none.cuts(0, 0), 0);
        Check.rowIs("the most below 0", none, -100, 24);
        Check.text(none, "x*100").rule();
        Check.due("the most above 0", none.cuts(0, 0), 0);
        Check.rowIs("the most above 0", none, 100, 24);
        FourAPole no = Check.course("", "300000", "");
        Check.due("no FENCES: all are", no.cuts(0, 0), -2);
        Check.due("no such HORSE", no.cuts(1, 0), -1);
        Check.due("no such PLAN", no.cuts(0, 1), -1);
    }

    private static void cutsOfEqualOnes() {
        FourAPole x = Check.course("u0@40;u0@43;u0@44;u0@47", "300000", "aaaa");
        Check.text(x, "7*x").rule();
        Check.due("the most TENTHS saved, then the first", x.cuts(0, 0), 2);
        Check.rowIs("the most TENTHS saved, then the first", x, 7, 11);
        Check.text(x, "7*x-(k=1)*x").rule();
        Check.due("one less FEAR counts more than TENTHS", x.cuts(0, 0), 1);
        Check.rowIs("one less FEAR counts more than TENTHS", x, 6, 10);
        x.move(2, 43);
        x.move(3, 43);
        Check.text(x, "7*x").rule();
        Check.due("all save 10: the first", x.cuts(0, 0), 0);
        Check.rowIs("all save 10: the first", x, 7, 10);
        x.move(3, 44);
        Check.due("the last saves 11", x.cuts(0, 0), 3);
        Check.rowIs("the last saves 11", x, 7, 11);
    }

    private static void curve() {
        FourAPole x = eight("p+x");
        Check.due("as few as can be", x.curve(0, 400), 32);
        Check.rowIs("as few as can be", x, 400, 7, 7, 7, 7, 7, 7, 7, 7);
        Edge.changesNothing("one too few", () -> eight("p+x"), -2, y -> y.curve(0, 399));
        Check.due("one too few", x.curve(0, 399), -2);
        Check.due("none", x.curve(0, 0), -2);
        Check.due("one", x.curve(0, 1), -2);
        Check.due("one more than the fewest", x.curve(0, 401), 32);
        Check.rowIs("one more than the fewest", x, 400, 7, 7, 7, 7, 7, 7, 7, 7);
        Check.due("the slowest", x.curve(0, 1184), 0);
        Check.rowIs("the slowest", x, 1184, 0, 0, 0, 0, 0, 0, 0, 0);
        Check.due("one more", x.curve(0, 1185), 0);
        Check.rowIs("one more", x, 1184, 0, 0, 0, 0, 0, 0, 0, 0);
        Check.due("one less", x.curve(0, 1183), 1);
        // By e 124 are taken as by b 123 (of 123.75).
        Check.rowIs("one less", x, 1159, 0, 0, 0, 0, 0, 0, 0, 1);
        Check.due("9998", x.curve(0, 9998), 0);
        Check.due("9999", x.curve(0, 9999), 0);
        Check.due("10000", x.curve(0, 10000), -1);
        Check.due("-1", x.curve(0, -1), -1);
        Check.rowIs("the ROW stays", x, 1184, 0, 0, 0, 0, 0, 0, 0, 0);
        Check.text(x, "55").rule();
        Check.due("of as little FEAR the fewest TENTHS", x.curve(0, 9999), 440);
        Check.rowIs("of as little FEAR the fewest TENTHS", x, 400, 7, 7, 7, 7, 7, 7, 7, 7);
        Check.text(x, "100-x-p").rule();
        Check.due("the quickest are the calmest", x.curve(0, 400), 768);
        Check.due("also with more", x.curve(0, 9999), 768);
    }

    /** One FENCE: all letters side by side, so what is due can be seen. */
    private static void curveAtEachTenth() {
        FourAPole x = Check.course("u0@40", "400000");
        Check.text(x, "p*10+x*7").rule();
        // a 60:0, b 50:10, c 40:20, d 30:30, e 50:7, f 40:17, g 30:27, h 20:37.
        int[][] want = {{19, -2, 0, 0}, {20, 37, 20, 7}, {21, 37, 20, 7}, {29, 37, 20, 7}, {30, 27, 30, 6}, {31, 27, 30, 6}, {39, 27, 30, 6},
            {40, 17, 40, 5}, {41, 17, 40, 5}, {49, 17, 40, 5}, {50, 7, 50, 4}, {51, 7, 50, 4}, {59, 7, 50, 4}, {60, 0, 60, 0}, {61, 0, 60, 0}};
        for (int[] w : want) {
            Check.due("curve at " + w[0], x.curve(0, w[0]), w[1]);
            if (w[1] >= 0) {
                Check.rowIs("curve at " + w[0], x, w[2], w[3]);
            }
        }
        Check.text(x, "p*10+x*10").rule();
        // Now b and e, c and f, d and g are alike: the first of them.
        int[][] alike = {{50, 10, 50, 1}, {40, 20, 40, 2}, {30, 30, 30, 3}, {20, 40, 20, 7}};
        for (int[] w : alike) {
            Check.due("curve of like ones at " + w[0], x.curve(0, w[0]), w[1]);
            Check.rowIs("curve of like ones at " + w[0], x, w[2], w[3]);
        }
    }

    private static void quick() {
        FourAPole x = eight("p+x");
        Check.due("no FEAR at all", x.quick(0, 0), 1184);
        Check.rowIs("no FEAR at all", x, 0, 0, 0, 0, 0, 0, 0, 0, 0);
        Check.due("one", x.quick(0, 1), 1159);
        Check.rowIs("one", x, 1, 0, 0, 0, 0, 0, 0, 0, 1);
        Check.due("one less than for the quickest", x.quick(0, 31), 424);
        Check.rowIs("one less than for the quickest", x, 31, 3, 7, 7, 7, 7, 7, 7, 7);
        Check.due("for the quickest", x.quick(0, 32), 400);
        Check.rowIs("for the quickest", x, 32, 7, 7, 7, 7, 7, 7, 7, 7);
        Check.due("one more than for the quickest", x.quick(0, 33), 400);
        Check.rowIs("one more than for the quickest", x, 32, 7, 7, 7, 7, 7, 7, 7, 7);
        Check.due("9998", x.quick(0, 9998), 400);
        Check.due("9999", x.quick(0, 9999), 400);
        Check.due("10000", x.quick(0, 10000), -1);
        Check.due("-1", x.quick(0, -1), -1);
        Check.rowIs("the ROW stays", x, 32, 7, 7, 7, 7, 7, 7, 7, 7);
        Check.text(x, "1").rule();
        Check.due("just enough", x.quick(0, 8), 400);
        Check.due("one too little", x.quick(0, 7), -2);
        Check.due("nothing", x.quick(0, 0), -2);
        Check.rowIs("by none: the ROW stays", x, 8, 7, 7, 7, 7, 7, 7, 7, 7);
        Check.text(x, "100").rule();
        Check.due("all fall", x.quick(0, 800), 400);
        Check.due("all but one of a hundred", x.quick(0, 799), -2);
    }

    private static void quickAtEachFear() {
        FourAPole x = Check.course("u0@40", "400000");
        Check.text(x, "5+p*10+x*7").rule();
        // a 60:5, e 50:12, b 50:15, f 40:22, c 40:25, g 30:32, d 30:35, h 20:42.
        int[][] want = {{4, -2, 0, 0}, {5, 60, 5, 0}, {6, 60, 5, 0}, {11, 60, 5, 0}, {12, 50, 12, 4}, {13, 50, 12, 4}, {15, 50, 12, 4}, {21, 50, 12, 4},
            {22, 40, 22, 5}, {23, 40, 22, 5}, {31, 40, 22, 5}, {32, 30, 32, 6}, {41, 30, 32, 6}, {42, 20, 42, 7}, {43, 20, 42, 7}};
        for (int[] w : want) {
            Check.due("quick with " + w[0], x.quick(0, w[0]), w[1]);
            if (w[1] >= 0) {
                Check.rowIs("quick with " + w[0], x, w[2], w[3]);
            }
        }
        Check.text(x, "p*10+x*10").rule();
        int[][] alike = {{10, 50, 10, 1}, {20, 40, 20, 2}, {30, 30, 30, 3}, {39, 30, 30, 3}, {40, 20, 40, 7}};
        for (int[] w : alike) {
            Check.due("quick of like ones with " + w[0], x.quick(0, w[0]), w[1]);
            Check.rowIs("quick of like ones with " + w[0], x, w[2], w[3]);
        }
    }

    private static void sure() {
        FourAPole x = Check.course("u0@40", "400000");
        Check.text(x, "p*10+x*7").rule();
        int[][] want = {{60, 0, 60, 0}, {61, 0, 60, 0}, {59, 7, 50, 4}, {50, 7, 50, 4}, {49, 17, 40, 5}, {21, 37, 20, 7}, {20, 37, 20, 7}, {9999, 0, 60, 0}};
        for (int[] w : want) {
            x.allow(w[0]);
            Check.due("sure within " + w[0], x.sure(0), w[1]);
            Check.rowIs("sure within " + w[0], x, w[2], w[3]);
        }
        for (int allowed : new int[] {19, 1, 0}) {
            x.allow(allowed);
            Check.due("not within " + allowed, x.sure(0), -2);
        }
        Check.rowIs("the ROW stays", x, 60, 0);
        Check.due("no such HORSE", x.sure(1), -1);
        Check.due("HORSE -1", x.sure(-1), -1);
        FourAPole first = Check.course("u0@80" + Check.times(";u0@80", 4), "400000");
        Check.text(first, "p+x").rule();
        Check.due("600 are allowed at first", first.sure(0), 0);
        first.move(0, 81);
        Check.due("601 are not", first.sure(0), 1);
    }

    /** Refusals of 21 at each of two FENCES are feared by any letters. */
    private static void refusalsCount() {
        FourAPole x = Check.course("l0@13;l0@13", "900000");
        Check.text(x, "p+x").rule();
        Check.due("the least FEAR", x.curve(0, 38), 42);
        Check.rowIs("the least FEAR", x, 38, 0, 0);
        Check.due("one TENTH less", x.curve(0, 37), 43);
        Check.due("just so much FEAR", x.quick(0, 42), 38);
        Check.rowIs("just so much FEAR", x, 42, 0, 0);
        Check.due("one less", x.quick(0, 41), -2);
        x.allow(38);
        Check.due("sure of it", x.sure(0), 42);
    }

    /** By a (60 TENTHS) at the first, 10 would be left for the second FENCE, and no letter takes 10 there. */
    private static void sumsThatCantBe() {
        FourAPole x = Check.course("u0@40;u0@16", "400000");
        Check.text(x, "((p=1)*(x=0))=0").rule();
        Check.due("only b is not feared", x.curve(0, 9999), 0);
        Check.rowIs("only b is not feared", x, 70, 1, 1);
        Check.due("only b is not feared: quick", x.quick(0, 0), 70);
        Check.rowIs("only b is not feared: quick", x, 0, 1, 1);
    }

    private static void noFences() {
        FourAPole x = Check.course("", "400000");
        x.allow(0);
        Check.due("no FENCES within 0", x.sure(0), 0);
        Check.rowIs("no FENCES within 0", x, 0);
        Check.due("no FENCES: curve(0, 0)", x.curve(0, 0), 0);
        Check.due("no FENCES: quick(0, 0)", x.quick(0, 0), 0);
        Check.due("no FENCES: no such HORSE", x.curve(1, 0), -1);
        Check.due("no FENCES: 10000", x.curve(0, 10000), -1);
        Check.due("no FENCES: quick 10000", x.quick(0, 10000), -1);
        Check.due("no FENCES, no PLAN: fear", x.fear(0, 0), -1);
        Check.due("no FENCES, no PLAN: poles", x.poles(0, 0, 0), -1);
        Check.due("no FENCES, a PLAN", Check.text(x, "").plan(), 0);
        Check.due("no FENCES, a PLAN: fear", x.fear(0, 0), 0);
        Check.rowIs("no FENCES, a PLAN: fear", x, 0, 10000);
        Check.due("no FENCES, a PLAN: no pole", x.poles(0, 0, 0), 10000);
        Check.due("no FENCES, a PLAN: a pole", x.poles(0, 0, 1), 0);
    }
}
