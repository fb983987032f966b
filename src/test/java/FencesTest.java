/** Promises 9 to 17: fences and horses, how they are changed, and a horse at a fence. */
public final class FencesTest {
    private static final int MIN = Integer.MIN_VALUE;
    private static final int MAX = Integer.MAX_VALUE;

    private FencesTest() {
    }

    public static void main(String[] args) {
        noneSuch();
        changes();
        sheets();
        jumps();
        strides();
        calm();
        Check.end("FencesTest");
    }

    private static void noneSuch() {
        FourAPole x = Check.course("u3@40;w4@36", "412345");
        Check.due("fence(1, 0)", x.fence(1, 0), 1);
        Check.due("horse(0, 5)", x.horse(0, 5), 5);
        for (int bad : new int[] {-1, 2, 8, MIN, MAX}) {
            Check.throwsNoSuch("fence(" + bad + ", 0)", () -> x.fence(bad, 0));
            Check.throwsNoSuch("horse(" + bad + ", 0)", () -> x.horse(bad, 0));
        }
        for (int bad : new int[] {-1, 3, 6, MIN, MAX}) {
            Check.throwsNoSuch("fence(0, " + bad + ")", () -> x.fence(0, bad));
        }
        for (int bad : new int[] {-1, 6, MIN, MAX}) {
            Check.throwsNoSuch("horse(0, " + bad + ")", () -> x.horse(0, bad));
        }
        FourAPole none = new FourAPole();
        Check.throwsNoSuch("fence of none", () -> none.fence(0, 0));
        Check.throwsNoSuch("horse of none", () -> none.horse(0, 0));
    }

    private static void changes() {
        FourAPole x = Check.course("u3@40;w4@36", "412345");
        Check.due("raise", x.raise(1, 9), 4);
        Check.due("raise to 0", x.raise(1, 0), 9);
        Check.due("raised", x.fence(1, 1), 0);
        Check.due("raise to 10", x.raise(1, 10), -1);
        Check.due("raise to -1", x.raise(1, -1), -1);
        Check.due("raise fence 2", x.raise(2, 1), -1);
        Check.due("raise fence -1", x.raise(-1, 1), -1);
        Check.due("not raised", x.fence(1, 1) + x.fence(0, 1), 3);
        Check.due("move", x.move(0, 10), 40);
        Check.due("move to 99", x.move(0, 99), 10);
        Check.due("move to 100", x.move(0, 100), -1);
        Check.due("move to 9", x.move(0, 9), -1);
        Check.due("move fence 2", x.move(2, 50), -1);
        Check.due("move fence -1", x.move(-1, 50), -1);
        Check.due("moved", x.fence(0, 2), 99);
        Check.due("allow 0", x.allow(0), 600);
        Check.due("allow 9999", x.allow(9999), 0);
        Check.due("allow 10000", x.allow(10000), -1);
        Check.due("allow -1", x.allow(-1), -1);
        Check.due("allowed", x.count(4), 9999);
    }

    private static void sheet(int kind, int n, int f, int step, int want, int heights) {
        FourAPole x = Check.course("u1@40;w2@36;d3@10", "");
        String what = "sheet(" + kind + ", " + n + ", " + f + ", " + step + ")";
        Check.due(what, x.sheet(kind, n, f, step), want);
        Check.due(what + " heights", x.fence(0, 1) * 100 + x.fence(1, 1) * 10 + x.fence(2, 1), heights);
        Check.due(what + " tells no row", x.count(6), 0);
    }

    private static void sheets() {
        sheet(2, 3, 5, 3, 22, 589);
        sheet(2, 2, 5, 3, 13, 580);
        sheet(2, 0, 5, 3, 0, 0);
        sheet(0, 2, 250, 10, 4, 40);
        sheet(0, 2, 127, 1, 9, 900);
        sheet(1, 1, 65541, 0, 5, 500);
        sheet(2, 1, 65541, 0, 9, 900);
        sheet(1, 3, 32767, 1, 9, 900);
        sheet(2, 2, MAX, 1, 9, 900);
        sheet(2, 3, 3, -2, 4, 310);
        sheet(0, 8, 1, 1, 6, 123);
        sheet(0, 9, 1, 1, -1, 123);
        sheet(3, 9, 1, 1, -1, 123);
        sheet(3, 8, 1, 1, -3, 0);
        sheet(3, -1, 1, 1, -3, 0);
        sheet(4, 1, 5, 5, -1, 123);
        sheet(-1, 1, 5, 5, -1, 123);
        sheet(4, -1, 5, 5, -1, 123);
        for (int kind = 0; kind < 3; kind++) {
            sheet(kind, -1, 5, 5, -2, 123);
            sheet(kind, MIN, 5, 5, -2, 123);
            sheet(kind, MAX, 5, 5, -1, 123);
        }
        FourAPole none = new FourAPole();
        Check.due("a sheet for no fences", none.sheet(2, 3, 5, 1), 0);
        Check.due("a missing sheet for no fences", none.sheet(3, 3, 5, 1), -3);
    }

    private static void jump(FourAPole x, int horse, int fence, int letter, int want, long... row) {
        String what = "jump(" + horse + ", " + fence + ", " + letter + ")";
        Check.due(what, x.jump(horse, fence, letter), want);
        Check.rowIs(what, x, row);
    }

    private static void jumps() {
        // Strides 9, 7; scope 2, 0; care for u, w, d, l.
        FourAPole x = Check.course("u5@40;w6@31;d9@13;l4@67", "921334;709995");
        jump(x, 0, 0, 0, 15 - 4 - 1 + 8 + 5, 16, 60, 4);
        jump(x, 0, 0, 3, 15 - 4 - 1 + 9 + 8 + 5, 16, 30, 4);
        jump(x, 0, 0, 4, 15 - 4 - 1 + 4 + 8 + 5, 16, 50, 4);
        jump(x, 0, 0, 7, 15 - 4 - 1 + 9 + 4 + 8 + 5, 16, 20, 4);
        jump(x, 0, 1, 1, 18 - 4 - 3 + 1 + 8 + 5, 16, 38, 4);
        jump(x, 0, 1, 5, 18 - 4 - 3 + 1 + 4 + 8 + 5, 16, 31, 4);
        jump(x, 0, 2, 0, 27 - 4 - 3 + 8 + 5, 16, 21, 4);
        jump(x, 0, 2, 7, 27 - 4 - 3 + 9 + 4 + 8 + 5, 16, 8, 4);
        jump(x, 0, 3, 0, 12 - 4 - 4 + 8 + 5, 21, 100, 4);
        jump(x, 1, 3, 0, 12 - 0 - 5 + 6 + 5, 8, 100, 3);
        jump(x, 1, 0, 2, 15 - 0 - 9 + 4 + 4 + 5, 0, 40, 2);
        x.move(3, 63);
        jump(x, 0, 3, 0, 12 - 4 - 4 + 0 + 5, 5, 94, 0);
        jump(x, 1, 3, 0, 12 - 0 - 5 + 0 + 5, 0, 94, 0);
        x.raise(3, 0);
        jump(x, 0, 3, 0, 0, 5, 94, 0);
        Check.text(x, "y*2").rule();
        jump(x, 0, 3, 0, 100, 5, 94, 0);
        int[][] bad = {{-1, 0, 0}, {2, 0, 0}, {0, -1, 0}, {0, 4, 0}, {0, 0, -1}, {0, 0, 8}, {MIN, MAX, MIN}};
        for (int[] b : bad) {
            Check.due("jump(" + b[0] + ", " + b[1] + ", " + b[2] + ")", x.jump(b[0], b[1], b[2]), -1);
            Check.rowIs("a refused jump leaves the row", x, 5, 94, 0);
        }
    }

    private static void strides() {
        FourAPole x = Check.course("u5@40;w6@12;d9@99;u0@10", "921334;800000;300000");
        int[][] want = {
            {0, 0, 4, 4, 0}, {0, 1, 1, 3, 0}, {0, 2, 11, 0, 0}, {0, 3, 1, 1, 0},
            {1, 0, 5, 0, 0}, {1, 1, 1, 4, 0}, {1, 2, 12, 3, 0}, {1, 3, 1, 2, 0},
            {2, 0, 13, 1, 0}, {2, 1, 4, 0, 0}, {2, 2, 33, 0, 0}, {2, 3, 3, 1, 0}};
        for (int[] w : want) {
            Check.due("strides(" + w[0] + ", " + w[1] + ")", x.strides(w[0], w[1]), w[2]);
            Check.rowIs("strides(" + w[0] + ", " + w[1] + ")", x, w[3], w[4]);
        }
        x.move(0, 41);
        Check.due("one more", x.strides(0, 0), 5);
        Check.rowIs("one more", x, 4, 1);
        x.move(0, 44);
        Check.due("one more still", x.strides(0, 0), 5);
        Check.rowIs("one more still", x, 1, 1);
        for (int bad : new int[] {-1, 4, MIN, MAX}) {
            Check.due("strides(" + bad + ", 0)", x.strides(bad, 0), -1);
            Check.due("strides(0, " + bad + ")", x.strides(0, bad), -1);
        }
        Check.rowIs("refused strides leave the row", x, 1, 1);
    }

    private static void calm() {
        FourAPole x = Check.course("u9@40;l2@27", "400000;900000");
        Check.due("calm by the usual rule", x.calm(0, 0), 0);
        Check.rowIs("calm by the usual rule", x, 32, 60);
        Check.text(x, "7").rule();
        Check.due("of as little the quickest", x.calm(0, 0), 7);
        Check.rowIs("of as little the quickest", x, 7, 20);
        Check.due("refusals count too", x.calm(1, 1), 7);
        Check.rowIs("refusals count too", x, 12, 14);
        Check.text(x, "(p=2)*x*3").rule();
        Check.due("not the letter g", x.calm(0, 0), 7);
        Check.text(x, "p*10+x").rule();
        Check.due("the slowest", x.calm(0, 0), 0);
        Check.text(x, "9-p*2-x*3").rule();
        Check.due("less than nothing is nothing", x.calm(0, 0), 7);
        Check.rowIs("less than nothing is nothing", x, 0, 20);
        // Of e (50) and b (50) as quick, the first.
        Check.text(x, "((p=1)*(x=0)+(p=0)*x)=0").rule();
        Check.due("of as quick ones the first", x.calm(0, 0), 1);
        Check.rowIs("of as quick ones the first", x, 0, 50);
        for (int bad : new int[] {-1, 2, MIN, MAX}) {
            Check.due("calm(" + bad + ", 0)", x.calm(bad, 0), -1);
            Check.due("calm(0, " + bad + ")", x.calm(0, bad), -1);
        }
        Check.rowIs("refused calm leaves the row", x, 0, 50);
    }
}
