/** Promises 18 to 24: what each plan fears, how long it takes, and the curve of both. */
public final class PlansTest {
    private static final int MIN = Integer.MIN_VALUE;
    private static final int MAX = Integer.MAX_VALUE;
    private static final String RING = "u3@40;w4@36;l2@24";
    private static final String HORSES = "455555;639993";

    private PlansTest() {
    }

    public static void main(String[] args) {
        fear();
        falls();
        poles();
        cuts();
        curve();
        quick();
        sure();
        longRings();
        noFences();
        Check.end("PlansTest");
    }

    private static void fear() {
        FourAPole x = Check.course(RING, HORSES, "aaa", "hhh");
        Check.due("fear(0, 1)", x.fear(0, 1), 12 + 15 + 9);
        Check.rowIs("fear(0, 1)", x, 50, 6806);
        // Poles 3, 6, 2 and, as it is looked at, 5 for a refusal.
        Check.due("fear(1, 0)", x.fear(1, 0), 12);
        Check.rowIs("fear(1, 0)", x, 150, 8849);
        FourAPole cut = Check.course("u0@10;u0@10;u0@10", "300000", "aaa");
        Check.text(cut, "33").rule();
        Check.due("cut after each fence", cut.fear(0, 0), 99);
        Check.rowIs("cut after each fence", cut, 45, 3007);
        FourAPole both = Check.course("l0@13;l0@13", "900000", "aa");
        Check.text(both, "77").rule();
        // 10000 * 79 / 100 = 7900, * 23 / 100 = 1817, * 79 / 100 = 1435, * 23 / 100 = 330.
        Check.due("refusals, then poles", both.fear(0, 0), 2 * (77 + 21));
        Check.rowIs("refusals, then poles", both, 38, 330);
        int[][] bad = {{-1, 0}, {2, 0}, {0, -1}, {0, 2}, {MIN, 0}, {0, MAX}};
        for (int[] b : bad) {
            Check.due("fear(" + b[0] + ", " + b[1] + ")", x.fear(b[0], b[1]), -1);
            Check.due("falls(" + b[0] + ", " + b[1] + ")", x.falls(b[0], b[1]), -1);
            Check.due("cuts(" + b[0] + ", " + b[1] + ")", x.cuts(b[0], b[1]), -1);
            Check.due("poles(" + b[0] + ", " + b[1] + ", 0)", x.poles(b[0], b[1], 0), -1);
        }
        Check.rowIs("refused questions leave the row", x, 150, 8849);
    }

    private static void falls() {
        FourAPole x = Check.course(RING, HORSES, "aaa", "hhh", "haa");
        Check.due("falls(0, 1)", x.falls(0, 1), 1);
        Check.rowIs("falls(0, 1)", x, 15);
        Check.due("falls(0, 2)", x.falls(0, 2), 0);
        Check.rowIs("falls(0, 2)", x, 12);
        Check.text(x, "17").rule();
        Check.due("of equal ones the first", x.falls(0, 1), 0);
        Check.rowIs("of equal ones the first", x, 17);
        Check.text(x, "0").rule();
        Check.due("none at all", x.falls(0, 1), 0);
        Check.rowIs("none at all", x, 0);
    }

    private static void poles() {
        FourAPole x = Check.course("u0@10;w0@10", "300000", "aa");
        Check.text(x, "33").rule();
        // With 0: 6700, 4489. With 1: 3300, then 3300 * 67 / 100 = 2211 and 6700 * 33 / 100 = 2211. With 2: 1089.
        int[] want = {4489, 4422, 1089, 0, 0, 0, 0, 0, 0};
        for (int n = 0; n < want.length; n++) {
            Check.due("poles(0, 0, " + n + ")", x.poles(0, 0, n), want[n]);
        }
        Check.due("poles(0, 0, 9)", x.poles(0, 0, 9), -1);
        Check.due("poles(0, 0, -1)", x.poles(0, 0, -1), -1);
        Check.due("poles tell no row", x.count(6), 0);
        FourAPole cut = Check.course("u0@10;w0@10;u0@10", "300000", "aaa");
        Check.text(cut, "33").rule();
        // 4489 * 67 / 100 = 3007; 4422 * 67 / 100 = 2962 and 4489 * 33 / 100 = 1481; 1089 * 67 / 100 = 729 and 1459; 359.
        int[] cutWant = {3007, 4443, 2188, 359};
        for (int n = 0; n < cutWant.length; n++) {
            Check.due("each part is cut: " + n, cut.poles(0, 0, n), cutWant[n]);
        }
        FourAPole all = Check.course("u0@10" + Check.times(";u0@10", 7), "300000", "aaaaaaaa");
        Check.text(all, "100").rule();
        Check.due("all eight", all.poles(0, 0, 8), 10000);
        Check.due("seven of eight", all.poles(0, 0, 7), 0);
    }

    private static void cuts() {
        FourAPole x = Check.course(RING, HORSES, "aaa", "hhh", "ccc", "dhh");
        Check.due("cuts(0, 0)", x.cuts(0, 0), 2);
        Check.rowIs("cuts(0, 0)", x, 0, 6);
        Check.due("cuts(0, 1)", x.cuts(0, 1), -2);
        Check.rowIs("all are cut: the row stays", x, 0, 6);
        Check.due("cuts(0, 2)", x.cuts(0, 2), 0);
        Check.rowIs("cuts(0, 2)", x, 4, 10);
        Check.due("cuts(0, 3)", x.cuts(0, 3), 0);
        Check.rowIs("cuts(0, 3)", x, 4, 10);
        Check.text(x, "20-x*9").rule();
        Check.due("less fear", x.cuts(0, 0), 0);
        Check.rowIs("less fear", x, -9, 10);
        Check.text(x, "20-x*(k=1)*9-x*(k=2)*9").rule();
        Check.due("the most saved of equal ones", x.cuts(0, 0), 1);
        Check.rowIs("the most saved of equal ones", x, -9, 9);
        Check.text(x, "20+x*k").rule();
        Check.due("dearer ones that save more don't count", x.cuts(0, 0), 0);
        x.move(1, 99);
        Check.due("nor far dearer ones", x.cuts(0, 0), 0);
        Check.rowIs("nor far dearer ones", x, 0, 10);
        FourAPole like = Check.course("u3@40;u3@43;u3@40", HORSES, "aaa");
        Check.text(like, "x").rule();
        Check.due("then the first", like.cuts(0, 0), 0);
        Check.rowIs("then the first", like, 1, 10);
    }

    private static void curve() {
        FourAPole x = Check.course(RING, HORSES);
        Check.due("curve(0, 150)", x.curve(0, 150), 2);
        Check.rowIs("curve(0, 150)", x, 128, 1, 0, 2);
        Check.due("curve(0, 128)", x.curve(0, 128), 2);
        Check.rowIs("curve(0, 128)", x, 128, 1, 0, 2);
        Check.due("curve(0, 50)", x.curve(0, 50), 36);
        Check.rowIs("curve(0, 50)", x, 50, 7, 7, 7);
        Check.due("curve(0, 49)", x.curve(0, 49), -2);
        Check.due("curve(0, 0)", x.curve(0, 0), -2);
        Check.rowIs("by none: the row stays", x, 50, 7, 7, 7);
        Check.due("curve(0, 9999)", x.curve(0, 9999), 2);
        FourAPole like = Check.course("u0@40;u0@40", "400000");
        Check.text(like, "p+x").rule();
        // b and e, c and f, d and g take as long and fear as much: the first letters count.
        Check.due("like letters", like.curve(0, 110), 1);
        Check.rowIs("like letters", like, 110, 0, 1);
        Check.due("like rows", like.curve(0, 99), 3);
        Check.rowIs("like rows", like, 90, 0, 3);
        for (int bad : new int[] {-1, 10000, MIN, MAX}) {
            Check.due("curve(0, " + bad + ")", like.curve(0, bad), -1);
            Check.due("quick(0, " + bad + ")", like.quick(0, bad), -1);
        }
        for (int bad : new int[] {-1, 1, MIN, MAX}) {
            Check.due("curve(" + bad + ", 100)", like.curve(bad, 100), -1);
            Check.due("quick(" + bad + ", 100)", like.quick(bad, 100), -1);
            Check.due("sure(" + bad + ")", like.sure(bad), -1);
        }
        Check.rowIs("refused: the row stays", like, 90, 0, 3);
    }

    private static void quick() {
        FourAPole x = Check.course(RING, HORSES);
        Check.due("quick(0, 36)", x.quick(0, 36), 50);
        Check.rowIs("quick(0, 36)", x, 36, 7, 7, 7);
        Check.due("quick(0, 9999)", x.quick(0, 9999), 50);
        Check.rowIs("quick(0, 9999)", x, 36, 7, 7, 7);
        Check.due("quick(0, 2)", x.quick(0, 2), 128);
        Check.rowIs("quick(0, 2)", x, 2, 1, 0, 2);
        Check.due("quick(0, 1)", x.quick(0, 1), -2);
        Check.due("quick(0, 0)", x.quick(0, 0), -2);
        Check.rowIs("by none: the row stays", x, 2, 1, 0, 2);
        FourAPole like = Check.course("u0@40;u0@40", "400000");
        Check.text(like, "(p>1)*50").rule();
        Check.due("the first of like letters", like.quick(0, 50), 60);
        Check.rowIs("the first of like letters", like, 50, 5, 7);
        Check.due("the least fear of as quick ones", like.quick(0, 0), 80);
        Check.rowIs("the least fear of as quick ones", like, 0, 5, 5);
    }

    private static void sure() {
        FourAPole x = Check.course(RING, HORSES);
        Check.due("sure within 600", x.sure(0), 2);
        Check.rowIs("sure within 600", x, 128, 1, 0, 2);
        x.allow(100);
        Check.due("sure within 100", x.sure(0), 9);
        Check.rowIs("sure within 100", x, 100, 2, 2, 2);
        x.allow(49);
        Check.due("not to be sure of", x.sure(0), -2);
        Check.rowIs("not to be sure of: the row stays", x, 100, 2, 2, 2);
        x.allow(0);
        Check.due("nothing allowed", x.sure(0), -2);
    }

    /** Eight FENCES as far as can be, held against all letters of all of them. */
    private static void longRings() {
        String far = "d9@99;u8@97;l7@95;w6@99;d5@88;u4@99;d3@99;d2@99";
        FourAPole x = new FourAPole();
        Slow slow = new Slow();
        for (String text : new String[] {far, "735281"}) {
            for (int i = 0; i < text.length(); i += 4) {
                int v = 0;
                for (int j = i; j < i + 4; j++) {
                    v = v << 8 | (j < text.length() ? text.charAt(j) : 0);
                }
                x.sign(v);
                slow.sign(v);
            }
            x.end(text.length());
            slow.end(text.length());
            boolean ring = text.equals(far);
            Check.due(text, ring ? x.ring() : x.horses(), ring ? slow.ring() : slow.horses());
        }
        for (int v : new int[] {420, 700, 900, 9999}) {
            Check.due("long curve " + v, x.curve(0, v), slow.curve(0, v));
            sameRow("long curve " + v, x, slow);
        }
        for (int v : new int[] {150, 180, 260}) {
            Check.due("long quick " + v, x.quick(0, v), slow.quick(0, v));
            sameRow("long quick " + v, x, slow);
        }
        FourAPole longest = Check.course("d0@99" + Check.times(";d0@99", 7), "300000", "aaaaaaaa");
        Check.text(longest, "p+x").rule();
        Check.due("the longest round", longest.curve(0, 9999), 0);
        Check.rowIs("the longest round", longest, 1200, 0, 0, 0, 0, 0, 0, 0, 0);
        Check.due("the longest but one", longest.curve(0, 1199), 1);
        Check.rowIs("the longest but one", longest, 1175, 0, 0, 0, 0, 0, 0, 0, 1);
        Check.due("the quickest", longest.quick(0, 9999), 416);
        Check.rowIs("the quickest", longest, 32, 7, 7, 7, 7, 7, 7, 7, 7);
    }

    private static void sameRow(String what, FourAPole x, Slow slow) {
        Check.due(what + ": numbers of the row", x.count(6), slow.count(6));
        for (int i = 0; i < slow.count(6) && i < x.count(6); i++) {
            Check.due(what + ": row(" + i + ")", x.row(i), slow.row(i));
        }
    }

    private static void noFences() {
        FourAPole x = Check.course("", "455555", "");
        Check.due("no fences: fear", x.fear(0, 0), 0);
        Check.rowIs("no fences: fear", x, 0, 10000);
        Check.due("no fences: falls", x.falls(0, 0), -2);
        Check.due("no fences, no such horse: falls", x.falls(1, 0), -1);
        Check.due("no fences: cuts", x.cuts(0, 0), -2);
        Check.rowIs("no fences: the row stays", x, 0, 10000);
        Check.due("no fences: poles", x.poles(0, 0, 0), 10000);
        Check.due("no fences: a pole", x.poles(0, 0, 1), 0);
        Check.due("no fences: curve", x.curve(0, 0), 0);
        Check.rowIs("no fences: curve", x, 0);
        Check.due("no fences: quick", x.quick(0, 0), 0);
        Check.rowIs("no fences: quick", x, 0);
        Check.due("no fences: sure", x.sure(0), 0);
    }
}
