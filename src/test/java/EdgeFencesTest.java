/** Promises 9 to 17 at their boundaries, with LEAN, TENTHS and ODDS of Term 1. */
public final class EdgeFencesTest {
    private EdgeFencesTest() {
    }

    public static void main(String[] args) {
        fencesAndHorses();
        raises();
        moves();
        allows();
        sheetsOfAllSizes();
        sheetsRefused();
        sheetEntries();
        leansAndStrides();
        tenths();
        refusals();
        poles();
        calm();
        Check.end("EdgeFencesTest");
    }

    private static void fencesAndHorses() {
        for (int n = 1; n <= 8; n++) {
            FourAPole x = Check.course(Edge.ring(n), "");
            int last = n - 1;
            Check.due("the last of " + n, x.fence(last, 2), n == 1 ? 10 : 20);
            Check.throwsNoSuch("behind the last of " + n, () -> x.fence(last + 1, 2));
            Check.throwsNoSuch("ahead of the first of " + n, () -> x.fence(-1, 2));
            Check.throwsNoSuch("what -1", () -> x.fence(last, -1));
            Check.throwsNoSuch("what 3", () -> x.fence(last, 3));
        }
        for (int n = 1; n <= 6; n++) {
            FourAPole x = Check.course("", Edge.horses(n));
            int last = n - 1;
            Check.due("the last of " + n, x.horse(last, 5), n == 1 ? 0 : 5);
            Check.throwsNoSuch("behind the last of " + n, () -> x.horse(last + 1, 0));
            Check.throwsNoSuch("ahead of the first of " + n, () -> x.horse(-1, 0));
            Check.throwsNoSuch("what -1", () -> x.horse(last, -1));
            Check.throwsNoSuch("what 6", () -> x.horse(last, 6));
        }
        Edge.changesNothing("a FENCE that is not there", Edge::some, Edge.THROWN, x -> x.fence(3, 0));
        Edge.changesNothing("a HORSE that is not there", Edge::some, Edge.THROWN, x -> x.horse(2, 0));
    }

    private static void raises() {
        FourAPole x = Edge.full();
        int was = 9;
        for (int v = 0; v <= 9; v++) {
            Check.due("HEIGHT becomes " + v, x.raise(7, v), was);
            Check.due("HEIGHT is " + v, x.fence(7, 1), v);
            Check.due("HEIGHT of the one ahead", x.fence(6, 1), 7);
            was = v;
        }
        Check.due("the same again", x.raise(7, 9), 9);
        Check.due("10", x.raise(7, 10), -1);
        Check.due("-1", x.raise(7, -1), -1);
        Check.due("it stays", x.fence(7, 1), 9);
        Check.due("FENCE 8", x.raise(8, 5), -1);
        Check.due("PLANS stay", x.count(2), 6);
        Check.due("ROUNDS stay", x.count(3), 12);
    }

    private static void moves() {
        FourAPole x = Edge.full();
        int was = 99;
        for (int v = 10; v <= 99; v++) {
            Check.due("FEET become " + v, x.move(7, v), was);
            Check.due("FEET are " + v, x.fence(7, 2), v);
            was = v;
        }
        Check.due("100", x.move(7, 100), -1);
        Check.due("9", x.move(7, 9), -1);
        Check.due("0", x.move(7, 0), -1);
        Check.due("they stay", x.fence(7, 2), 99);
        Check.due("FENCE 8", x.move(8, 50), -1);
        Check.due("of the one ahead", x.fence(6, 2), 70);
        Check.due("PLANS stay", x.count(2), 6);
        Check.due("ROUNDS stay", x.count(3), 12);
    }

    private static void allows() {
        FourAPole x = Edge.none();
        int was = 600;
        for (int v : new int[] {0, 1, 599, 600, 601, 9998, 9999}) {
            Check.due("ALLOWED becomes " + v, x.allow(v), was);
            Check.due("ALLOWED is " + v, x.count(4), v);
            was = v;
        }
        Check.due("10000", x.allow(10000), -1);
        Check.due("-1", x.allow(-1), -1);
        Check.due("it stays", x.count(4), 9999);
    }

    private static int heights(FourAPole x) {
        int all = 0;
        for (int i = 0; i < x.count(0); i++) {
            all = all * 10 + x.fence(i, 1);
        }
        return all;
    }

    private static void sheetsOfAllSizes() {
        for (int fences = 0; fences <= 8; fences++) {
            for (int kind = 0; kind < 3; kind++) {
                for (int n = 0; n <= 8; n++) {
                    FourAPole x = fences == 0 ? Edge.none() : Check.course("u9@10" + Check.times(";u9@10", fences - 1), "");
                    int sum = 0;
                    int all = 0;
                    for (int i = 0; i < fences; i++) {
                        sum += i < n ? 1 + i : 0;
                        all = all * 10 + (i < n ? 1 + i : 0);
                    }
                    String what = "sheet of kind " + kind + ", " + n + " entries, " + fences + " FENCES";
                    Check.due(what, x.sheet(kind, n, 1, 1), sum);
                    Check.due(what + ": HEIGHTS", heights(x), all);
                }
            }
            for (int n : new int[] {Edge.MIN, -1, 0, 1, 7, 8}) {
                FourAPole x = fences == 0 ? Edge.none() : Check.course("u9@10" + Check.times(";u9@10", fences - 1), "");
                Check.due("a missing one with n " + n, x.sheet(3, n, 5, 5), -3);
                Check.due("a missing one with n " + n + ": all 0", heights(x), 0);
                Check.due("a missing one leaves FEET and kind", fences == 0 ? 10 : x.fence(0, 2) + x.fence(0, 0), 10);
            }
        }
        FourAPole x = Edge.full();
        Check.due("a sheet leaves PLANS and ROUNDS", x.sheet(2, 8, 0, 1) + x.count(2) + x.count(3), 28 + 6 + 12);
        Check.due("a sheet leaves the ROW", x.count(6), 12);
    }

    private static void sheetsRefused() {
        for (Edge.Maker maker : new Edge.Maker[] {Edge::none, Edge::some, Edge::full}) {
            for (int kind : new int[] {Edge.MIN, -2, -1, 4, 5, 256, Edge.MAX}) {
                for (int n : new int[] {Edge.MIN, -1, 0, 1, 8, 9, Edge.MAX}) {
                    Edge.changesNothing("sheet of kind " + kind + ", n " + n, maker, -1, x -> x.sheet(kind, n, 5, 1));
                }
            }
            for (int kind = 0; kind <= 3; kind++) {
                int k = kind;
                for (int n : new int[] {9, 10, 256, Edge.MAX}) {
                    Edge.changesNothing("sheet of kind " + kind + ", n " + n, maker, -1, x -> x.sheet(k, n, 5, 1));
                }
                for (int n : new int[] {-1, -2, -256, Edge.MIN}) {
                    if (kind < 3) {
                        Edge.changesNothing("sheet of kind " + kind + ", n " + n, maker, -2, x -> x.sheet(k, n, 5, 1));
                    }
                }
            }
        }
    }

    private static void entry(int kind, int f, int want) {
        FourAPole x = Check.course("u5@10;w5@10", "");
        Check.due("entry " + f + " of kind " + kind, x.sheet(kind, 1, f, 7), want);
        Check.due("entry " + f + " of kind " + kind + ": HEIGHT", heights(x), want * 10);
        x = Check.course("u5@10;w5@10", "");
        Check.due("the second entry " + f + " of kind " + kind, x.sheet(kind, 2, 0, f), want);
        Check.due("the second entry " + f + " of kind " + kind + ": HEIGHT", heights(x), want);
    }

    private static void sheetEntries() {
        for (int kind = 0; kind < 3; kind++) {
            for (int v = -3; v <= 12; v++) {
                entry(kind, v, v < 0 ? 0 : v > 9 ? 9 : v);
            }
            entry(kind, 127, 9);
            entry(kind, -128, 0);
        }
        int[][] bytes = {{128, 0}, {255, 0}, {256, 0}, {257, 1}, {264, 8}, {265, 9}, {266, 9}, {383, 9}, {384, 0}, {-129, 9}, {-247, 9}, {-248, 8},
            {-255, 1}, {-256, 0}, {-257, 0}, {Edge.MAX, 0}, {Edge.MIN, 0}, {Edge.MIN + 3, 3}, {65541, 5}};
        for (int[] b : bytes) {
            entry(0, b[0], b[1]);
        }
        int[][] shorts = {{128, 9}, {255, 9}, {256, 9}, {-129, 0}, {32767, 9}, {32768, 0}, {65535, 0}, {65536, 0}, {65537, 1}, {65545, 9},
            {65546, 9}, {-32768, 0}, {-32769, 9}, {-65535, 1}, {-65528, 8}, {Edge.MAX, 0}, {Edge.MIN, 0}, {Edge.MIN + 4, 4}};
        for (int[] s : shorts) {
            entry(1, s[0], s[1]);
        }
        int[][] ints = {{128, 9}, {255, 9}, {32768, 9}, {65536, 9}, {Edge.MAX, 9}, {Edge.MIN, 0}, {-65535, 0}, {Edge.MIN + 4, 0}};
        for (int[] i : ints) {
            entry(2, i[0], i[1]);
        }
        FourAPole x = Edge.full();
        Check.due("entries beyond an int start at its other end", x.sheet(2, 8, Edge.MAX - 2, 1), 27);
        Check.due("the first three", heights(x), 99900000);
        Check.due("steps beyond an int likewise", x.sheet(2, 8, 0, 1 << 30), 18);
        Check.due("the second and the sixth", heights(x), 9000900);
        Check.due("steps down", x.sheet(2, 8, 3, -1), 6);
        Check.due("steps down: HEIGHTS", heights(x), 32100000);
        Check.due("no steps", x.sheet(0, 8, 4, 0), 32);
    }

    private static void leansAndStrides() {
        for (int stride = 3; stride <= 9; stride++) {
            FourAPole x = Check.course("u0@10", stride + "00000");
            for (int feet = 10; feet <= 99; feet++) {
                x.move(0, feet);
                int left = feet - feet / stride * stride;
                boolean more = 2 * left > stride;
                int lean = more ? stride - left : left;
                String what = feet + " FEET by STRIDE " + stride;
                x.jump(0, 0, 0);
                Check.due(what + ": LEAN", x.row(2), lean);
                Check.due(what + ": STRIDES", x.strides(0, 0), feet / stride + (more ? 1 : 0));
                Check.rowIs(what, x, lean, more ? 1 : 0);
            }
        }
        FourAPole x = Check.course("u0@12", "800000");
        Check.due("just between: not one more", x.strides(0, 0), 1);
        Check.rowIs("just between: not one more", x, 4, 0);
        x.move(0, 13);
        Check.due("one step on: one more", x.strides(0, 0), 2);
        Check.rowIs("one step on: one more", x, 3, 1);
        x.move(0, 11);
        Check.due("one step ahead: not", x.strides(0, 0), 1);
        Check.rowIs("one step ahead: not", x, 3, 0);
        x.move(0, 16);
        Check.due("all fits", x.strides(0, 0), 2);
        Check.rowIs("all fits", x, 0, 0);
    }

    private static void tenths() {
        String kinds = "uwdl";
        for (int kind = 0; kind < 4; kind++) {
            FourAPole x = Check.course(kinds.charAt(kind) + "0@10", "300000");
            for (int feet = 10; feet <= 99; feet++) {
                x.move(0, feet);
                for (int letter = 0; letter < (feet % 10 == 0 || feet > 95 ? 8 : 1); letter++) {
                    long quarters = (long) feet * (6 - letter % 4);
                    long want = (quarters - quarters % 4) / 4 - (letter > 3 ? (feet - feet % 4) / 4 : 0) + (kind == 2 ? 2 : 0);
                    x.jump(0, 0, letter);
                    Check.due("TENTHS of " + kinds.charAt(kind) + feet + " by letter " + letter, x.row(1), want);
                }
            }
        }
        FourAPole x = Check.course("u0@10;d0@10;u0@99;d0@99;u0@11;u0@12", "300000");
        int[][] want = {{0, 0, 15}, {0, 3, 7}, {0, 4, 13}, {0, 7, 5}, {1, 0, 17}, {1, 7, 7}, {2, 0, 148}, {2, 7, 50}, {3, 0, 150}, {3, 7, 52},
            {4, 3, 8}, {4, 7, 6}, {5, 3, 9}, {5, 7, 6}, {4, 0, 16}, {5, 0, 18}};
        for (int[] w : want) {
            x.jump(0, w[0], w[1]);
            Check.due("TENTHS at FENCE " + w[0] + " by letter " + w[1], x.row(1), w[2]);
        }
    }

    private static void refusals() {
        String kinds = "uwdl";
        for (int kind = 0; kind < 4; kind++) {
            for (int care = 0; care <= 9; care++) {
                for (int others = 0; others <= 9; others += 9) {
                    String horse = "9" + others + Check.times("" + others, 3) + care;
                    FourAPole x = Check.course(kinds.charAt(kind) + "0@10", horse);
                    for (int feet = 18; feet <= 27; feet++) {
                        x.move(0, feet);
                        int[] byLean = {0, 0, 0, 8, 16};
                        int lean = Math.min(feet - 18, 27 - feet);
                        x.jump(0, 0, 0);
                        int looks = kind == 3 && care <= 4 ? 5 : 0;
                        Check.due("a refusal at " + kinds.charAt(kind) + feet + ", CARE " + care, x.row(0), byLean[lean] + looks);
                    }
                }
            }
        }
    }

    private static void poles() {
        FourAPole x = Check.course("u0@10", "300000");
        Check.text(x, "y-12").rule();
        int[][] low = {{10, 0}, {11, 0}, {12, 0}, {13, 1}, {14, 2}};
        for (int[] p : low) {
            x.move(0, p[0]);
            Check.due("ODDS are 0 at least: " + p[0], x.jump(0, 0, 0), p[1]);
        }
        Check.text(x, "y+3").rule();
        int[][] high = {{95, 98}, {96, 99}, {97, 100}, {98, 100}, {99, 100}};
        for (int[] p : high) {
            x.move(0, p[0]);
            Check.due("ODDS are 100 at most: " + p[0], x.jump(0, 0, 0), p[1]);
        }
        FourAPole usual = Check.course("u0@10;u9@13;w9@13", "590900;900000");
        Check.due("the least of all by no RULE", usual.jump(0, 0, 0), 0);
        Check.due("the most of all by no RULE", usual.jump(1, 1, 7), 27 + 9 + 4 + 8 + 5);
        Check.due("CARE of its kind", usual.jump(0, 2, 0), 27 - 18 - 9 + 4 + 5);
        Check.due("not CARE of another", usual.jump(0, 1, 0), 27 - 18 + 4 + 5);
        Check.text(usual, "k").rule();
        for (int fence = 0; fence < 3; fence++) {
            Check.due("the FENCE's number", usual.jump(0, fence, 0), fence);
        }
        Check.text(usual, "p*10+x").rule();
        int[] byLetter = {0, 10, 20, 30, 1, 11, 21, 31};
        for (int letter = 0; letter < 8; letter++) {
            Check.due("PACE and CUT of letter " + letter, usual.jump(0, 0, letter), byLetter[letter]);
        }
    }

    private static void calm() {
        FourAPole x = Check.course("l0@13;u0@40", "900000");
        Check.text(x, "999").rule();
        Check.due("all at 100: the quickest", x.calm(0, 0), 7);
        Check.rowIs("all at 100: the quickest", x, 121, 6);
        Check.text(x, "-9").rule();
        Check.due("all at 0: the quickest", x.calm(0, 0), 7);
        Check.rowIs("all at 0: the quickest", x, 21, 6);
        Check.text(x, "101-(p=0)*(x=0)").rule();
        Check.due("101 is no more than 100", x.calm(0, 1), 7);
        Check.text(x, "101-(p=0)*(x=0)*2").rule();
        Check.due("99 is less", x.calm(0, 1), 0);
        Check.rowIs("99 is less", x, 99 + 16, 60);
        // c and f take 40 both: the first of them, whichever is asked for last.
        Check.text(x, "50-(p+x=2)*(p>0)*(p<3)*9").rule();
        Check.due("of as quick ones the first", x.calm(0, 1), 2);
        Check.rowIs("of as quick ones the first", x, 41 + 16, 40);
        Check.text(x, "50-(p=0)*9").rule();
        Check.due("of as little the quickest", x.calm(0, 1), 4);
        Check.rowIs("of as little the quickest", x, 41 + 16, 50);
    }
}
