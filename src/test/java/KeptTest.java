/** Promises 47 to 50: tables that are kept, counts, the row. */
public final class KeptTest {
    private static final int MIN = Integer.MIN_VALUE;
    private static final int MAX = Integer.MAX_VALUE;

    private KeptTest() {
    }

    public static void main(String[] args) {
        keep();
        counts();
        rows();
        Check.end("KeptTest");
    }

    private static void keep() {
        FourAPole x = Check.course("u3@40", "400000", "a");
        Check.due("nothing kept", x.again(0), false);
        Check.due("keep nothing", x.keep(0), true);
        x.told(0, 0, 0, 7);
        Check.due("keep one", x.keep(1), true);
        x.told(1, 0, 4, 8);
        for (int bad : new int[] {-1, 2, MIN, MAX}) {
            Check.due("keep(" + bad + ")", x.keep(bad), false);
            Check.due("again(" + bad + ")", x.again(bad), false);
        }
        Check.due("refused: two to undo", x.count(5), 2);
        Check.due("again with none", x.again(0), true);
        Check.due("none", x.count(3), 0);
        Check.due("forgotten", x.count(5), 0);
        Check.due("again with one", x.again(1), true);
        Check.due("one", x.count(3), 1);
        Check.due("that one", x.round(0, 3), 7);
        Check.text(x, "500000").horses();
        Check.text(x, "x;t21:9+9").show();
        Check.due("again and again", x.again(1), true);
        Check.due("its rider again", x.round(0, 0), 0);
        Check.due("its horse again", x.round(0, 1), 0);
        Check.due("its faults again", x.round(0, 2), 0);
        Check.due("its tenths again", x.round(0, 3), 7);
        x.told(3, 1, 9, 9);
        x.keep(1);
        Check.text(x, "x;t20:9+9").show();
        x.again(1);
        Check.due("the other horse again", x.round(1, 1), 1);
        Check.text(x, "x").show();
        x.keep(1);
        Check.due("one again", x.count(3), 1);
        x.told(2, 0, 9, 9);
        Check.due("kept anew", x.keep(1), true);
        x.undo();
        Check.due("undone", x.count(3), 1);
        x.again(1);
        Check.due("as kept anew", x.count(3), 2);
        Check.due("its rider", x.round(1, 0), 2);
        x.allow(5);
        Check.text(x, "1").prizes();
        x.again(0);
        Check.due("only the table is kept: allowed", x.count(4), 5);
        Check.due("only the table is kept: money", x.count(8), 1);
    }

    private static void counts() {
        FourAPole x = Check.course("u3@40;w1@10", "400000;500000;600000", "aa", "bb", "cc", "dd");
        Check.text(x, "9,8,7").prizes();
        x.allow(123);
        x.told(0, 0, 0, 1);
        x.told(0, 0, 0, 1);
        x.keep(0);
        x.again(0);
        x.told(0, 0, 0, 1);
        x.table();
        x.sign(0);
        int[] want = {2, 3, 4, 3, 123, 1, 3, 4, 24};
        for (int i = 0; i < want.length; i++) {
            Check.due("count(" + i + ")", x.count(i), want[i]);
        }
        for (int bad : new int[] {-1, 9, MIN, MAX}) {
            Check.due("count(" + bad + ")", x.count(bad), -1);
        }
    }

    private static void rows() {
        FourAPole x = Check.course("u3@40", "400000", "a");
        Check.throwsNoSuch("row(0) of none", () -> x.row(0));
        x.jump(0, 0, 0);
        Check.due("row(2)", x.row(2), 0);
        for (int bad : new int[] {-1, 3, MIN, MAX}) {
            Check.throwsNoSuch("row(" + bad + ")", () -> x.row(bad));
        }
        x.falls(0, 0);
        Check.rowIs("a shorter row", x, 14);
        Check.throwsNoSuch("row(1) of a shorter row", () -> x.row(1));
        x.count(0);
        x.fence(0, 0);
        x.raise(0, 4);
        x.poles(0, 0, 0);
        x.undo();
        Check.rowIs("calls that tell no row leave it", x, 14);
        x.table();
        Check.rowIs("an empty row", x);
        Check.throwsNoSuch("row(0) of an empty row", () -> x.row(0));
    }
}
