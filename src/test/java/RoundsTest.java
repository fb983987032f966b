/** Promises 25 to 34: rounds that are ridden, looked at, told, shown, undone, and the table of them. */
public final class RoundsTest {
    private static final int MIN = Integer.MIN_VALUE;
    private static final int MAX = Integer.MAX_VALUE;
    private static final String RING = "u3@40;w4@36;l2@24";
    private static final String HORSES = "455555;639993";

    private RoundsTest() {
    }

    public static void main(String[] args) {
        draws();
        rides();
        told();
        showTexts();
        shows();
        undo();
        undoOfTwelve();
        round();
        table();
        place();
        beat();
        law();
        Check.end("RoundsTest");
    }

    private static FourAPole fresh() {
        return Check.course(RING, HORSES, "aaa", "hhh");
    }

    private static void draws() {
        // Seed 1: R 1103527590 (16838 % 100 = 38), then 2524885223 (38526: 26), as an int -1770082073.
        FourAPole x = Check.course("u0@13", "900000", "a");
        Check.text(x, "27").rule();
        Check.due("26 is below 27", x.look(0, 0, 1), 4);
        Check.rowIs("26 is below 27", x, 19, 0, 1, -1770082073);
        Check.text(x, "26").rule();
        Check.due("26 is not below 26", x.look(0, 0, 1), 0);
        Check.rowIs("26 is not below 26", x, 19, 0, 0, -1770082073);
        // Refusals 16: seed 0 draws 0 first (12345), then -740551042 (54236: 36).
        Check.text(x, "37").rule();
        Check.due("0 is below 16", x.look(0, 0, 0), 8);
        Check.rowIs("0 is below 16", x, 79, 1, 1, -740551042);
        x.allow(39);
        Check.due("40 too many", x.look(0, 0, 0), 9);
        x.allow(38);
        Check.due("41 too many", x.look(0, 0, 0), 10);
        x.allow(79);
        Check.due("none too many", x.look(0, 0, 0), 8);
        x.allow(78);
        Check.due("one too many", x.look(0, 0, 0), 9);
        Check.text(x, "0").rule();
        Check.due("a clear one after a refusal", x.look(0, 0, 1), 0);
        Check.rowIs("a clear one after a refusal", x, 19, 0, 0, -1770082073);
        // Seed 120 draws 16 first: a horse that refuses to 16 of 100 does not. Seed 3 draws 15 first.
        Check.due("16 is not below 16", x.look(0, 0, 120), 0);
        Check.due("15 is below 16, and one too many", x.look(0, 0, 3), 5);
        FourAPole three = fresh();
        Check.text(three, "100").rule();
        three.allow(0);
        Check.due("all fall, and 50 too many", three.look(0, 1, 9), 14);
        Check.due("all fall: bits", three.row(2), 7);
        Check.due("a question leaves the table", three.count(3) + three.count(5), 0);
    }

    private static void rides() {
        FourAPole x = fresh();
        Check.text(x, "0").rule();
        Check.due("look", x.look(0, 0, 5), 0);
        long state = x.row(3);
        Check.due("ride", x.ride(2, 0, 0, 5), 0);
        Check.rowIs("ride", x, 150, 0, 0, state);
        Check.due("one round", x.count(3), 1);
        Check.due("one to undo", x.count(5), 1);
        Check.due("its rider", x.round(0, 0), 2);
        Check.due("its horse", x.round(0, 1), 0);
        Check.due("its tenths", x.round(0, 3), 150);
        x.allow(30);
        Check.due("ride late", x.ride(5, 1, 0, MIN), 3);
        Check.due("ride late: its row", x.row(3), 1109335178);
        Check.due("its faults", x.round(1, 2), 3);
        int[][] bad = {{-1, 0, 0}, {6, 0, 0}, {0, -1, 0}, {0, 2, 0}, {0, 0, -1}, {0, 0, 2}, {MAX, MIN, MAX}};
        Check.due("a row to stay", x.place(0, 0), 1);
        for (int[] b : bad) {
            Check.due("ride(" + b[0] + ", " + b[1] + ", " + b[2] + ", 1)", x.ride(b[0], b[1], b[2], 1), -1);
        }
        Check.due("look(-1, 0, 1)", x.look(-1, 0, 1), -1);
        Check.due("look(2, 0, 1)", x.look(2, 0, 1), -1);
        Check.due("look(0, -1, 1)", x.look(0, -1, 1), -1);
        Check.due("look(0, 2, 1)", x.look(0, 2, 1), -1);
        Check.rowIs("refused: the row stays", x, 50);
        Check.due("refused: rounds stay", x.count(3), 2);
        Check.due("refused: undo stays", x.count(5), 2);
        for (int i = 2; i < 12; i++) {
            Check.due("told", x.told(0, 0, 0, i), i + 1);
        }
        Check.due("ride of a thirteenth", x.ride(0, 0, 0, 1), -2);
        Check.rowIs("ride of a thirteenth: the row stays", x, 50);
        Check.due("look all the same", x.look(0, 0, 1), 3);
        Check.due("look all the same: numbers", x.count(6), 4);
        Check.due("ride of a thirteenth by none", x.ride(6, 0, 0, 1), -1);
    }

    private static void told() {
        FourAPole x = fresh();
        Check.due("told least", x.told(0, 0, 0, 0), 1);
        Check.due("told most", x.told(5, 1, 99, 9999), 2);
        int[][] bad = {{-1, 0, 0, 0}, {6, 0, 0, 0}, {0, -1, 0, 0}, {0, 2, 0, 0}, {0, 0, -1, 0}, {0, 0, 100, 0},
            {0, 0, 0, -1}, {0, 0, 0, 10000}, {MIN, MAX, MIN, MAX}};
        for (int[] b : bad) {
            Check.due("told of none such", x.told(b[0], b[1], b[2], b[3]), -1);
        }
        Check.due("two rounds", x.count(3), 2);
        Check.due("two to undo", x.count(5), 2);
        for (int i = 2; i < 12; i++) {
            x.told(0, 0, 0, i);
        }
        Check.due("told of a thirteenth", x.told(0, 0, 0, 0), -2);
        Check.due("told of a thirteenth by none", x.told(0, 0, 0, -1), -1);
        Check.due("told tells no row", x.count(6), 0);
    }

    private static void show(String text, int want) {
        FourAPole x = fresh();
        x.told(0, 0, 0, 0);
        Check.due("show " + text, Check.text(x, text).show(), want);
        Check.due("show " + text + " empties the text", x.count(7), 0);
        if (want < 0) {
            Check.due("show " + text + " does nothing", x.count(3) * 100 + x.count(5) * 10 + x.count(6), 110);
        }
    }

    private static void showTexts() {
        show("", 0);
        show("q", -1);
        show(";", -1);
        show("r", -2);
        show("rx", -2);
        show("r0", -3);
        show("r00", -4);
        show("r000", -5);
        show("r0000", -5);
        show("r000*", -6);
        show("r000*1", 1);
        show("r000*12", -7);
        show("r000*0", 1);
        show("r:", -2);
        show("r0:", -3);
        show("r00:", -4);
        show("r000*:", -6);
        show("t:", -2);
        show("t0:", -3);
        show("t00::", -5);
        show("t00:1:", -6);
        show("t00:1+:", -7);
        show("t00:1+1:", -8);
        show("t", -2);
        show("t0", -3);
        show("t00", -4);
        show("t000", -4);
        show("t00:", -5);
        show("t00:+", -5);
        show("t00:1", -6);
        show("t00:12", -7);
        show("t00:123", -7);
        show("t00:12+", -8);
        show("t00:12+1", 1);
        show("t00:1+1234", 1);
        show("t00:1+12345", -11);
        show("t00:1+1;", -9);
        show("x", 1);
        show("xx", -2);
        show("x;", -3);
        show("x;;", -3);
        show("x;t", -4);
        String sixty = "x" + Check.times(";x", 27) + ";r000*";
        Check.due("that is 61", sixty.length(), 61);
        show(sixty, -61);
        show(sixty + "1", -61);
        show("x" + Check.times(";x", 29), 1);
        show("x" + Check.times(";x", 29) + ";", -61);
        show("x" + Check.times(";x", 30), -61);
        show("x" + Check.times(";x", 29) + "x", -60);
        show("x" + Check.times(";x", 39), -61);
    }

    private static void shows() {
        FourAPole x = fresh();
        Check.text(x, "100").rule();
        Check.due("a show", Check.text(x, "t10:4+90;r011*3;x;t51:07+0008").show(), 4);
        Check.rowIs("a show", x, 0, 2);
        Check.due("its rider", x.round(1, 0), 5);
        Check.due("its horse", x.round(1, 1), 1);
        Check.due("its faults", x.round(1, 2), 7);
        Check.due("its tenths", x.round(1, 3), 8);
        Check.due("one to undo", x.count(5), 1);
        Check.due("ridden in a show", Check.text(x, "r301*9").show(), 1);
        int ridden = x.look(0, 1, 9);
        Check.due("ridden as it looks", x.round(2, 2), ridden);
        Check.due("ridden by", x.round(2, 0), 3);
        Check.due("undo a ride", x.undo(), 1);
        Check.due("undo a show", x.undo(), 0);
        Check.due("nothing left", x.count(3), 0);
        String[] stuck = {"x", "r600*1", "r020*1", "r002*1", "t60:1+1", "t02:1+1"};
        for (String act : stuck) {
            Check.due("can't be: " + act, Check.text(x, act + ";t00:0+0").show(), 0);
            Check.rowIs("can't be: " + act, x, 1, 0);
            Check.due("can't be: nothing to undo", x.count(5), 0);
            Check.due("one can be: " + act, Check.text(x, "t00:0+5;x;" + act + ";t00:0+0").show(), 2);
            Check.rowIs("one can be: " + act, x, 1, 0);
            Check.due("one can be: to undo", x.count(5), 1);
            x.undo();
        }
        Check.due("an empty one", Check.text(x, "").show(), 0);
        Check.rowIs("an empty one", x, 0, 0);
        Check.due("an empty one: nothing to undo", x.count(5), 0);
        for (int i = 0; i < 11; i++) {
            x.told(0, 0, 0, i);
        }
        Check.due("full", Check.text(x, "t00:0+1;t00:0+2").show(), 1);
        Check.rowIs("full", x, 1, 12);
        Check.due("full for rides", Check.text(x, "x;r000*1;r000*1").show(), 2);
        Check.rowIs("full for rides", x, 1, 12);
    }

    private static void undo() {
        FourAPole x = fresh();
        Check.due("nothing to undo", x.undo(), -1);
        x.told(0, 0, 4, 10);
        x.ride(1, 1, 0, 3);
        Check.text(x, "x;x;t22:0+5").show();
        Check.due("the show stuck", x.count(3), 0);
        Check.due("undo the show", x.undo(), 2);
        Check.due("both are back", x.count(3), 2);
        Check.text(x, "x;x;t21:9+77;t31:8+66").show();
        Check.due("undo what was told anew", x.undo(), 2);
        Check.due("the rider is back", x.round(0, 0), 0);
        Check.due("the horse is back", x.round(0, 1), 0);
        Check.due("the first is back", x.round(0, 2) * 1000 + x.round(0, 3), 4010);
        Check.due("the second is back", x.round(1, 0), 1);
        Check.due("undo the ride", x.undo(), 1);
        Check.due("undo what was told", x.undo(), 0);
        Check.due("no more", x.undo(), -1);
        x.told(0, 0, 0, 1);
        x.keep(0);
        x.told(0, 0, 0, 2);
        Check.due("a refused again", x.again(1), false);
        Check.due("forgets nothing", x.count(5), 2);
        Check.due("again", x.again(0), true);
        Check.due("forgets all", x.undo(), -1);
        Check.due("undo tells no row", x.count(6), 2);
    }

    private static void undoOfTwelve() {
        FourAPole x = fresh();
        for (int i = 0; i < 10; i++) {
            x.told(0, 0, 0, i);
        }
        for (int i = 0; i < 5; i++) {
            Check.text(x, "x").show();
        }
        Check.due("twelve at most", x.count(5), 12);
        Check.text(x, "r600*1").show();
        x.told(9, 0, 0, 0);
        Check.due("what can't be pushes none out", x.count(5), 12);
        for (int i = 11; i >= 0; i--) {
            Check.due("undo", x.undo(), i);
            int want = i >= 7 ? 17 - i : i + 3;
            Check.due("rounds after undo to " + i, x.count(3), want);
            Check.due("the latest after undo to " + i, x.round(want - 1, 3), want - 1);
            Check.due("the first after undo to " + i, x.round(0, 3), 0);
        }
        Check.due("the first three are not kept", x.undo(), -1);
        Check.due("three rounds stay", x.count(3), 3);
    }

    private static void round() {
        FourAPole x = fresh();
        x.told(0, 0, 0, 120);
        x.told(1, 1, 4, 90);
        x.told(2, 0, 0, 120);
        x.told(3, 1, 0, 100);
        int[][] want = {{0, 0, 0, 120, 2, 30}, {1, 1, 4, 90, 4, 10}, {2, 0, 0, 120, 3, 20}, {3, 1, 0, 100, 1, 50}};
        for (int i = 0; i < want.length; i++) {
            for (int what = 0; what < 6; what++) {
                Check.due("round(" + i + ", " + what + ")", x.round(i, what), want[i][what]);
            }
        }
        for (int bad : new int[] {-1, 4, 12, MIN, MAX}) {
            Check.throwsNoSuch("round(" + bad + ", 0)", () -> x.round(bad, 0));
        }
        for (int bad : new int[] {-1, 6, MIN, MAX}) {
            Check.throwsNoSuch("round(0, " + bad + ")", () -> x.round(0, bad));
        }
        for (int i = 0; i < 4; i++) {
            x.told(0, 0, 8, i);
        }
        Check.due("the sixth place", x.round(5, 5), 5);
        Check.due("behind the sixth", x.round(6, 4), 7);
        Check.due("behind the sixth no money", x.round(6, 5), 0);
        Check.text(x, "7,20").prizes();
        Check.due("other money", x.round(0, 5), 20);
        Check.due("no money", x.round(2, 5), 0);
    }

    private static void table() {
        FourAPole x = fresh();
        Check.due("an empty table", x.table(), 0);
        Check.rowIs("an empty table", x);
        x.told(0, 0, 4, 120);
        x.told(0, 0, 0, 130);
        x.told(0, 0, 4, 110);
        x.told(0, 0, 0, 130);
        x.told(0, 0, 1, 1);
        Check.due("a table", x.table(), 2);
        Check.rowIs("a table", x, 1, 3, 4, 2, 0);
        for (int i = 5; i < 12; i++) {
            x.told(0, 0, 0, 0);
        }
        Check.due("a full table", x.table(), 9);
        Check.rowIs("a full table", x, 5, 6, 7, 8, 9, 10, 11, 1, 3, 4, 2, 0);
    }

    private static void place() {
        FourAPole x = fresh();
        Check.due("in an empty table", x.place(99, 9999), 1);
        Check.rowIs("in an empty table", x, 50);
        x.told(0, 0, 0, 120);
        x.told(1, 1, 4, 90);
        x.told(2, 0, 0, 100);
        int[][] want = {{0, 99, 1, 50}, {0, 100, 2, 30}, {0, 119, 2, 30}, {0, 120, 3, 20}, {4, 89, 3, 20}, {4, 90, 4, 10},
            {99, 9999, 4, 10}, {0, 0, 1, 50}};
        for (int[] w : want) {
            Check.due("place(" + w[0] + ", " + w[1] + ")", x.place(w[0], w[1]), w[2]);
            Check.rowIs("place(" + w[0] + ", " + w[1] + ")", x, w[3]);
        }
        int[][] bad = {{-1, 0}, {100, 0}, {0, -1}, {0, 10000}, {MIN, MAX}};
        for (int[] b : bad) {
            Check.due("place(" + b[0] + ", " + b[1] + ")", x.place(b[0], b[1]), -1);
        }
        Check.rowIs("refused: the row stays", x, 50);
        for (int i = 3; i < 12; i++) {
            x.told(0, 0, 0, 0);
        }
        Check.due("a thirteenth place", x.place(5, 0), 13);
        Check.rowIs("a thirteenth place", x, 0);
    }

    private static void beat() {
        FourAPole x = fresh();
        Check.due("in an empty table", x.beat(1), 9999);
        Check.rowIs("in an empty table", x, 50);
        Check.due("the twelfth in an empty table", x.beat(12), 9999);
        Check.rowIs("the twelfth in an empty table", x, 50);
        x.told(0, 0, 1, 0);
        x.told(0, 0, 0, 120);
        x.told(0, 0, 0, 100);
        x.told(0, 0, 0, 120);
        int[][] want = {{1, 99, 50}, {2, 119, 30}, {3, 119, 30}, {4, 9999, 10}, {5, 9999, 10}, {12, 9999, 10}};
        for (int[] w : want) {
            Check.due("beat(" + w[0] + ")", x.beat(w[0]), w[1]);
            Check.rowIs("beat(" + w[0] + ")", x, w[2]);
        }
        x.told(0, 0, 0, 0);
        Check.due("nobody beats 0", x.beat(1), -2);
        Check.rowIs("nobody beats 0: the row stays", x, 10);
        Check.due("the second behind 0", x.beat(2), 99);
        Check.rowIs("the second behind 0", x, 30);
        for (int bad : new int[] {0, 13, -1, MIN, MAX}) {
            Check.due("beat(" + bad + ")", x.beat(bad), -1);
        }
        Check.rowIs("refused: the row stays", x, 30);
        FourAPole slow = fresh();
        slow.told(0, 0, 0, 9999);
        Check.due("beat 9999", slow.beat(1), 9998);
        Check.due("behind 9999", slow.beat(2), 9999);
    }

    private static void law() {
        FourAPole x = fresh();
        x.allow(100);
        Check.due("an empty table", x.law(40, 1), 0);
        Check.rowIs("an empty table", x);
        x.told(0, 0, 0, 120);
        x.told(1, 1, 4, 90);
        x.told(2, 0, 0, 100);
        x.told(3, 0, 6, 180);
        x.told(4, 0, 7, 181);
        // Others of FAULTS: 0 (not -1), 4, 0, 4, 4. Begun spans above 100 of 40: 1, 0, 0, 2, 3.
        int[][] want = {{40, 1, 0, 2, 0, 1, 3, 4}, {4, 2, 2, 2, 1, 0, 3, 4}, {20, 3, 0, 2, 0, 1, 3, 4}, {19, 3, 2, 2, 1, 0, 3, 4},
            {999, 0, 0, 2, 0, 1, 3, 4}, {999, 9, 2, 2, 1, 0, 3, 4}, {1, 9, 2, 2, 1, 0, 3, 4}};
        for (int[] w : want) {
            Check.due("law(" + w[0] + ", " + w[1] + ")", x.law(w[0], w[1]), w[2]);
            Check.rowIs("law(" + w[0] + ", " + w[1] + ")", x, w[3], w[4], w[5], w[6], w[7]);
        }
        int[][] bad = {{0, 1}, {1000, 1}, {40, -1}, {40, 10}, {MIN, MAX}};
        for (int[] b : bad) {
            Check.due("law(" + b[0] + ", " + b[1] + ")", x.law(b[0], b[1]), -1);
        }
        Check.rowIs("refused: the row stays", x, 2, 1, 0, 3, 4);
        Check.due("a question leaves faults", x.round(0, 2), 0);
        x.allow(0);
        // Others of FAULTS: 0, 1, 0, 1, 2, as time cost 3, 3, 3, 5, 5.
        Check.due("all are late", x.law(999, 0), 0);
        Check.rowIs("all are late", x, 2, 0, 1, 3, 4);
        FourAPole less = fresh();
        less.allow(100);
        less.told(0, 0, 4, 90);
        less.told(0, 0, 5, 140);
        less.told(0, 0, 5, 101);
        // Without faults for time all have 4: by tenths then.
        Check.due("time for nothing", less.law(40, 0), 2 - 2);
        Check.rowIs("time for nothing", less, 0, 2, 1);
        Check.due("each tenth costs", less.law(1, 1), 0);
        less.told(0, 0, 3, 300);
        // That one had 5 for time: 0 others, so it is the first without.
        Check.due("the most of time forgiven", less.law(999, 0), 0);
        Check.due("time dear", less.law(10, 1), 4);
        Check.rowIs("time dear", less, 0, 2, 1, 3);
    }
}
