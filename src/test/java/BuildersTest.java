/** Promises 41 to 46: builders, rider or horse, wind. */
public final class BuildersTest {
    private static final int MIN = Integer.MIN_VALUE;
    private static final int MAX = Integer.MAX_VALUE;

    private BuildersTest() {
    }

    public static void main(String[] args) {
        through();
        built();
        fair();
        parts();
        riders();
        wind();
        Check.end("BuildersTest");
    }

    private static void through() {
        FourAPole x = Check.course("u3@40;w4@36;l2@24", "455555;639993", "aaa", "hhh");
        Check.due("through(0, 8849)", x.through(0, 8849), 3);
        Check.rowIs("through(0, 8849)", x, 2);
        Check.due("through(0, 8850)", x.through(0, 8850), 1);
        Check.rowIs("through(0, 8850)", x, 1);
        Check.due("through(0, 9801)", x.through(0, 9801), 0);
        Check.rowIs("through(0, 9801)", x, 0);
        Check.due("through(1, 0)", x.through(1, 0), 3);
        Check.due("through(0, 10000)", x.through(0, 10000), 0);
        Check.text(x, "0").rule();
        Check.due("clear for sure", x.through(0, 10000), 1);
        Check.rowIs("clear for sure", x, 1);
        int[][] bad = {{-1, 0}, {2, 0}, {0, -1}, {0, 10001}, {MIN, MAX}};
        for (int[] b : bad) {
            Check.due("through(" + b[0] + ", " + b[1] + ")", x.through(b[0], b[1]), -1);
        }
        Check.rowIs("refused: the row stays", x, 1);
        FourAPole none = Check.course("u3@40", "", "a");
        Check.due("no horses", none.through(0, 0), 0);
        Check.rowIs("no horses", none, 0);
    }

    private static void built(FourAPole x, int v, int n, int want, long height, long many) {
        String what = "built(0, " + v + ", " + n + ")";
        Check.due(what, x.built(0, v, n), want);
        Check.rowIs(what, x, height, many);
    }

    private static void built() {
        // Poles by height and scope: 10 for each that the height is above the scope.
        FourAPole x = Check.course("u5@40;u5@40", "430000;450000;470000", "aa");
        Check.text(x, "(h-s)*10").rule();
        // Clear: 6400 (80 each), 10000, 10000.
        built(x, 10000, 2, -1, -1, 2);
        built(x, 10000, 3, -1, -1, 2);
        built(x, 10000, 1, 0, 6, 1);
        built(x, 10000, 0, 0, 8, 0);
        built(x, 8000, 3, 0, 0, 3);
        built(x, 8001, 3, -1, -1, 2);
        built(x, 10000, 6, -1, -1, 2);
        built(x, 0, 0, -1, -1, 3);
        x.raise(0, 0);
        // Now 8000, 10000, 10000: the second fence at 3 is low enough, as low as 0 is the first that is.
        built(x, 10000, 3, 1, 0, 3);
        Check.due("heights stay", x.fence(0, 1) * 10 + x.fence(1, 1), 5);
        FourAPole shy = Check.course("l5@40;l5@42", "430000;450009;770000", "aa");
        Check.text(shy, "(h-s)*10").rule();
        // Clear with refusals of 5 at each: 5776, or 7220 with one fence low; of 0 and 0: 10000; 100 * 95 twice: 9025.
        built(shy, 9025, 3, -1, -1, 2);
        built(shy, 9026, 2, -1, -1, 1);
        built(shy, 7221, 3, -1, -1, 2);
        built(shy, 7220, 3, 0, 0, 3);
        x.built(0, 10000, 3);
        int[][] bad = {{-1, 0, 0}, {1, 0, 0}, {0, -1, 0}, {0, 10001, 0}, {0, 0, -1}, {0, 0, 7}, {MIN, MAX, MIN}};
        for (int[] b : bad) {
            Check.due("built(" + b[0] + ", " + b[1] + ", " + b[2] + ")", x.built(b[0], b[1], b[2]), -2);
        }
        Check.rowIs("refused: the row stays", x, 0, 3);
        FourAPole none = Check.course("", "400000", "");
        Check.due("no fences", none.built(0, 0, 0), -1);
        Check.rowIs("no fences", none, -1, 1);
    }

    private static void fair() {
        FourAPole x = Check.course("u3@41;w4@36", "400000;600000");
        Check.due("fair for 4 and 6", x.fair(0), 12);
        Check.rowIs("fair for 4 and 6", x, 0, 0);
        Check.text(x, "900000;700000;800000").horses();
        // 56: 0, 2, 2, 0, 0. 72: 0, 0, 0, 2, 0.
        Check.due("fair for more", x.fair(1), 72);
        Check.rowIs("fair for more", x, 2, 2);
        Check.due("feet stay", x.fence(1, 2), 36);
        for (int bad : new int[] {-1, 2, MIN, MAX}) {
            Check.due("fair(" + bad + ")", x.fair(bad), -1);
        }
        Check.rowIs("refused: the row stays", x, 2, 2);
        FourAPole odd = Check.course("u3@41", "900000;700000");
        Check.due("the first horse counts too", odd.fair(0), 63);
        Check.rowIs("the first horse counts too", odd, 0, 0);
        FourAPole none = Check.course("u3@41", "");
        Check.due("no horses", none.fair(0), 10);
        Check.rowIs("no horses", none, 0, 0);
    }

    private static void parts() {
        FourAPole x = Check.course("u3@40", "400000;400000;400000;400000");
        Check.due("no rounds", x.parts(), 0);
        Check.rowIs("no rounds", x, 0, 0, 0, 0, 0, 0, 0);
        x.told(0, 0, 4, 0);
        Check.due("one round", x.parts(), 0);
        Check.rowIs("one round", x, 0, 0, 0, 4, 0, 0, 1);
        x.told(1, 0, 5, 0);
        x.told(0, 1, 3, 0);
        Check.due("three rounds", x.parts(), 0);
        Check.rowIs("three rounds", x, 0, 1, 0, 4, 3, 0, 3);
        x.told(1, 1, 8, 0);
        // 4, 5, 3, 8: two and two can't be 4 of four; off by 4 at the least.
        Check.due("four rounds", x.parts(), 4);
        Check.rowIs("four rounds", x, 0, 1, 0, 4, 3, 0, 4);
        x.told(3, 0, 99, 0);
        x.told(0, 3, 99, 0);
        Check.due("of others nothing", x.parts(), 4);
        Check.rowIs("of others nothing", x, 0, 1, 0, 4, 3, 0, 4);
        x.told(2, 2, 20, 0);
        Check.due("8 at most", x.parts(), 16);
        Check.rowIs("8 at most", x, 0, 1, 4, 4, 3, 4, 5);
        FourAPole rider = Check.course("u3@40", "400000;400000;400000");
        rider.told(0, 0, 6, 0);
        rider.told(0, 1, 4, 0);
        rider.told(0, 2, 3, 0);
        Check.due("the first rider's part", rider.parts(), 0);
        Check.rowIs("the first rider's part", rider, 2, 0, 0, 4, 2, 1, 3);
    }

    private static void riders() {
        FourAPole x = Check.course("u3@40", "400000;400000;400000");
        Check.due("no rounds", x.riders(0, 1), -2);
        x.told(0, 0, 4, 0);
        Check.due("one alone", x.riders(0, 1), -2);
        Check.due("no row", x.count(6), 0);
        x.told(0, 0, 0, 0);
        x.told(1, 0, 1, 0);
        x.told(0, 1, 0, 0);
        x.told(1, 1, 4, 0);
        x.told(1, 1, 5, 0);
        x.told(1, 1, 4, 0);
        x.told(0, 2, 50, 0);
        x.told(5, 2, 50, 0);
        // 2 less 1, and 0 less 13 by 3: the mean of 1 and -13 by 3.
        Check.due("on two horses", x.riders(0, 1), 2);
        Check.rowIs("on two horses", x, -5, 3);
        Check.due("turned", x.riders(1, 0), 2);
        Check.rowIs("turned", x, 5, 3);
        Check.due("on one horse", x.riders(5, 0), 1);
        Check.rowIs("on one horse", x, 0, 1);
        Check.due("on no horse", x.riders(5, 1), -2);
        int[][] bad = {{0, 0}, {5, 5}, {-1, 0}, {0, -1}, {6, 0}, {0, 6}, {MIN, MAX}, {7, 7}};
        for (int[] b : bad) {
            Check.due("riders(" + b[0] + ", " + b[1] + ")", x.riders(b[0], b[1]), -1);
        }
        Check.rowIs("refused: the row stays", x, 0, 1);
    }

    private static void wind(FourAPole x, int fence, int n, int m, int w, int want, long... row) {
        String what = "wind(" + fence + ", " + n + ", " + m + ", " + w + ")";
        Check.due(what, x.wind(fence, n, m, w), want);
        Check.rowIs(what, x, row);
    }

    private static void wind() {
        FourAPole x = Check.course("u0@40;u9@40", "410000;420000;490000", "ah", "aa");
        Check.text(x, "s*10+k*x").rule();
        wind(x, 0, 0, 0, 50, 0, 1, 1, 1, 1);
        wind(x, 0, 0, 1, 10, 0, 9, 10, 4, 5);
        wind(x, 0, 1, 1, 10, 1, 1, 10, 1, 5);
        wind(x, 0, 1, 1, 0, 0, 1, 10, 1, 10);
        wind(x, 0, 1, 2, 10, 1, 13, 50, 19, 50);
        // 90 and 20 are 110: 100 at most.
        wind(x, 0, 3, 3, 20, 1, 9, 500, 3, 25);
        wind(x, 0, 3, 3, 100, 1, 9, 500, 1, 1);
        wind(x, 0, 2, 3, 100, 0, 59, 250, 0, 1);
        wind(x, 1, 1, 1, 10, 1, 11, 100, 21, 100);
        int[][] bad = {{-1, 0, 0, 0}, {2, 0, 0, 0}, {0, -1, 0, 0}, {0, 1, 0, 0}, {0, 0, -1, 0}, {0, 0, 4, 0}, {0, 0, 7, 0},
            {0, 0, 0, -1}, {0, 0, 0, 101}, {MIN, MIN, MAX, MAX}, {0, MIN, MIN, 0}, {0, MAX, MAX, 0}};
        for (int[] b : bad) {
            Check.due("wind of none such", x.wind(b[0], b[1], b[2], b[3]), -1);
        }
        Check.rowIs("refused: the row stays", x, 11, 100, 21, 100);
        FourAPole six = Check.course("u0@40", "410000" + Check.times(";450000", 5), "a");
        Check.text(six, "s*10").rule();
        wind(six, 0, 6, 6, 50, 1, 1, 320, 3, 5);
        wind(six, 0, 0, 6, 50, 0, 9, 320, 0, 1);
        FourAPole none = Check.course("u0@40", "400000");
        Check.due("no plan", none.wind(0, 0, 0, 0), -1);
    }
}
