/** Promises 47 to 50 at their boundaries, and what Term 2 says of the ROW, of questions and of refused calls. */
public final class EdgeKeptTest {
    private EdgeKeptTest() {
    }

    public static void main(String[] args) {
        keeps();
        keepsOfAllSizes();
        agains();
        counts();
        rows();
        rowsOfAllCalls();
        rowsThatStay();
        questions();
        longUse();
        Check.end("EdgeKeptTest");
    }

    private static void keeps() {
        for (int i : new int[] {Edge.MIN, -2, -1, 2, 3, 256, Edge.MAX}) {
            Edge.changesNothing("keep(" + i + ")", Edge::some, 0, x -> x.keep(i) ? 1 : 0);
            Edge.changesNothing("again(" + i + ")", Edge::full, 0, x -> x.again(i) ? 1 : 0);
            Edge.changesNothing("again(" + i + ") of nothing", Edge::none, 0, x -> x.again(i) ? 1 : 0);
        }
        Edge.changesNothing("nothing kept under 0", Edge::some, 0, x -> x.again(0) ? 1 : 0);
        Edge.changesNothing("nothing kept under 0 of none", Edge::none, 0, x -> x.again(0) ? 1 : 0);
        Edge.changesNothing("nothing kept under 1 of none", Edge::none, 0, x -> x.again(1) ? 1 : 0);
        FourAPole x = Edge.none();
        Check.due("an empty TABLE is kept too", x.keep(0), true);
        Check.due("it is there again", x.again(0), true);
        Check.due("under another number it is not", x.again(1), false);
    }

    private static void keepsOfAllSizes() {
        for (int n = 0; n <= 12; n++) {
            FourAPole x = Check.course("u0@40", "400000;500000");
            Check.due("keep nothing under 1", x.keep(1), true);
            for (int i = 0; i < n; i++) {
                x.told(i % 6, i % 2, 99 - i, 9999 - i);
            }
            Check.due("keep " + n, x.keep(0), true);
            Check.due("keeping leaves what can be undone", x.count(5), n);
            Check.text(x, "x;x;t50:1+2").show();
            Check.due("again " + n, x.again(0), true);
            Check.due("as many", x.count(3), n);
            for (int i = 0; i < n; i++) {
                Check.due("its RIDER", x.round(i, 0), i % 6);
                Check.due("its HORSE", x.round(i, 1), i % 2);
                Check.due("its FAULTS", x.round(i, 2), 99 - i);
                Check.due("its TENTHS", x.round(i, 3), 9999 - i);
            }
            Check.due("nothing to undo", x.undo(), -1);
            Check.due("the other one is still kept", x.again(1), true);
            Check.due("it is empty", x.count(3), 0);
            Check.due("again and again", x.again(0), true);
            Check.due("as many as before", x.count(3), n);
        }
    }

    private static void agains() {
        FourAPole x = Edge.some();
        Check.due("again", x.again(1), true);
        Check.due("one ROUND", x.count(3), 1);
        Check.due("ROUNDS behind it are gone", Edge.answer(x, y -> y.round(1, 0)), Edge.THROWN);
        Check.due("what comes behind it", x.told(5, 1, 3, 33), 2);
        Check.due("can be undone", x.count(5), 1);
        Check.due("kept is what was kept", x.again(1) ? x.count(3) : -1, 1);
        Check.due("kept anew", x.keep(1), true);
        x.told(5, 1, 3, 33);
        Check.due("under the other number too", x.keep(0), true);
        Check.due("each has its own", x.again(1) ? x.count(3) : -1, 1);
        Check.due("the other one", x.again(0) ? x.count(3) : -1, 2);
        Check.text(x, "9").prizes();
        x.allow(77);
        x.raise(0, 9);
        x.again(1);
        Check.due("THE TABLE alone: MONEY", x.count(8), 9);
        Check.due("THE TABLE alone: ALLOWED", x.count(4), 77);
        Check.due("THE TABLE alone: HEIGHT", x.fence(0, 1), 9);
        Check.due("THE TABLE alone: PLANS", x.count(2), 2);
        Check.due("a RING that can't stand", Check.text(x, "z").ring(), -1);
        Check.due("leaves what is kept", x.again(0), true);
        Check.due("a RING", Check.text(x, "u0@40").ring(), 1);
        Check.due("nothing is kept under 0", x.again(0), false);
        Check.due("nothing is kept under 1", x.again(1), false);
    }

    private static void counts() {
        FourAPole none = Edge.none();
        FourAPole some = Edge.some();
        FourAPole full = Edge.full();
        int[] ofNone = {0, 0, 0, 0, 600, 0, 0, 0, 120};
        int[] ofSome = {3, 2, 2, 3, 100, 3, 1, 0, 137};
        int[] ofFull = {8, 6, 6, 12, 600, 12, 12, 0, 120};
        for (int i = 0; i < 9; i++) {
            Check.due("nothing there: count(" + i + ")", none.count(i), ofNone[i]);
            Check.due("some there: count(" + i + ")", some.count(i), ofSome[i]);
            Check.due("all there: count(" + i + ")", full.count(i), ofFull[i]);
        }
        for (int what : new int[] {Edge.MIN, -2, -1, 9, 10, 256, Edge.MAX}) {
            Edge.changesNothing("count(" + what + ")", Edge::some, -1, x -> x.count(what));
        }
        Check.text(full, Check.times("x", 80));
        Check.due("80 signs", full.count(7), 80);
        Check.text(full, "99,99,99,99,99,99").prizes();
        Check.due("the most MONEY", full.count(8), 594);
        Check.text(full, "0").prizes();
        Check.due("no MONEY", full.count(8), 0);
        full.allow(9999);
        Check.due("the most ALLOWED", full.count(4), 9999);
    }

    private static void rows() {
        for (int n = 0; n <= 12; n++) {
            FourAPole x = Check.course("u0@40", "400000");
            for (int i = 0; i < n; i++) {
                x.told(0, 0, 0, i);
            }
            x.table();
            int size = n;
            Check.due("numbers of the ROW", x.count(6), n);
            for (int i = 0; i < n; i++) {
                Check.due("row(" + i + ")", x.row(i), i);
            }
            for (int bad : new int[] {Edge.MIN, -1, size, size + 1, 12, 13, Edge.MAX}) {
                if (bad < 0 || bad >= size) {
                    Check.throwsNoSuch("row(" + bad + ") of " + size, () -> x.row(bad));
                }
            }
        }
    }

    private static void told(String what, int numbers, Edge.Ask ask) {
        FourAPole x = Edge.some();
        x.table();
        Edge.answer(Check.text(x, "01"), ask);
        Check.due(what + ": numbers of the ROW", x.count(6), numbers);
        Check.due(what + ": its last number", Edge.answer(x, y -> y.row(numbers - 1)) != Edge.THROWN, true);
        Check.due(what + ": none behind it", Edge.answer(x, y -> y.row(numbers)), Edge.THROWN);
    }

    private static void rowsOfAllCalls() {
        told("jump", 3, x -> x.jump(0, 0, 0));
        told("strides", 2, x -> x.strides(0, 0));
        told("calm", 2, x -> x.calm(0, 0));
        told("fear", 2, x -> x.fear(0, 0));
        told("falls", 1, x -> x.falls(0, 0));
        told("cuts", 2, x -> x.cuts(0, 0));
        told("curve", 4, x -> x.curve(0, 9999));
        told("quick", 4, x -> x.quick(0, 9999));
        told("sure", 4, x -> x.allow(9999) + x.sure(0));
        told("ride", 4, x -> x.ride(0, 0, 0, 0));
        told("look", 4, x -> x.look(0, 0, 0));
        told("show", 2, x -> Check.text(x, "x").show());
        told("place", 1, x -> x.place(0, 0));
        told("beat", 1, x -> x.beat(1));
        told("law", 3, x -> x.law(40, 1));
        told("mean", 2, x -> x.mean(0, 0));
        told("last", 1, x -> x.last(0));
        told("buy", 3, FourAPole::buy);
        told("game", 4, FourAPole::game);
        told("game of one", 2, x -> Check.text(x, "0").game());
        told("game of three", 6, x -> Check.text(x, "010").game());
        told("lot", 2, FourAPole::lot);
        told("share", 5, x -> x.share(1));
        told("through", 1, x -> x.through(0, 0));
        told("built", 2, x -> x.built(0, 0, 0));
        told("fair", 2, x -> x.fair(0));
        told("parts", 7, FourAPole::parts);
        told("riders", 2, x -> x.riders(0, 2));
        told("wind", 4, x -> x.wind(0, 0, 0, 0));
    }

    private static void stays(String what, String text, Edge.Ask ask) {
        FourAPole x = Check.text(Edge.some(), text);
        x.curve(0, 9999);
        long sum = x.row(0) * 1000 + x.row(1) * 100 + x.row(2) * 10 + x.row(3);
        Edge.answer(x, ask);
        Check.due(what + " leaves the ROW: numbers", x.count(6), 4);
        Check.due(what + " leaves the ROW", x.row(0) * 1000 + x.row(1) * 100 + x.row(2) * 10 + x.row(3), sum);
    }

    /** Calls that say nothing of the ROW, done and not refused. */
    private static void rowsThatStay() {
        stays("sign", "", x -> x.sign(0));
        stays("end", "abcd", x -> x.end(1) ? 1 : 0);
        stays("ring", "u0@10", FourAPole::ring);
        stays("horses", "300000", FourAPole::horses);
        stays("plan", "aaa", FourAPole::plan);
        stays("rule", "5", FourAPole::rule);
        stays("prizes", "5", FourAPole::prizes);
        stays("fence", "", x -> x.fence(0, 0));
        stays("horse", "", x -> x.horse(0, 0));
        stays("raise", "", x -> x.raise(0, 0));
        stays("move", "", x -> x.move(0, 50));
        stays("allow", "", x -> x.allow(0));
        stays("sheet", "", x -> x.sheet(0, 3, 1, 1));
        stays("a missing sheet", "", x -> x.sheet(3, 3, 1, 1));
        stays("poles", "", x -> x.poles(0, 0, 0));
        stays("told", "", x -> x.told(0, 0, 0, 0));
        stays("undo", "", FourAPole::undo);
        stays("round", "", x -> x.round(0, 0));
        stays("keep", "", x -> x.keep(0) ? 1 : 0);
        stays("again", "", x -> x.again(1) ? 1 : 0);
        stays("count", "", x -> x.count(0));
        stays("row", "", x -> x.row(0));
    }

    private static void question(String what, String text, boolean reads, Edge.Ask ask) {
        for (Edge.Maker maker : new Edge.Maker[] {Edge::some, Edge::full}) {
            // What place() tells last is the same with or without the question.
            Edge.Ask after = x -> {
                Edge.answer(x, ask);
                return x.place(99, 9999);
            };
            Edge.Maker asked = () -> {
                FourAPole x = maker.make();
                x.place(99, 9999);
                return x;
            };
            long want = asked.make().place(99, 9999);
            if (reads) {
                Edge.changesTextAlone(what, asked, text, want, after);
            } else {
                Edge.changesNothing(what, asked, want, after);
            }
        }
    }

    private static void questions() {
        question("fence", "", false, x -> x.fence(0, 0));
        question("horse", "", false, x -> x.horse(0, 0));
        question("jump", "", false, x -> x.jump(0, 0, 7));
        question("strides", "", false, x -> x.strides(1, 1));
        question("calm", "", false, x -> x.calm(1, 1));
        question("fear", "", false, x -> x.fear(1, 1));
        question("falls", "", false, x -> x.falls(1, 1));
        question("poles", "", false, x -> x.poles(1, 1, 1));
        question("cuts", "", false, x -> x.cuts(0, 0));
        question("curve", "", false, x -> x.curve(0, 9999));
        question("quick", "", false, x -> x.quick(0, 9999));
        question("sure", "", false, x -> x.sure(0));
        question("look", "", false, x -> x.look(0, 0, 77));
        question("round", "", false, x -> x.round(0, 5));
        question("table", "", false, FourAPole::table);
        question("beat", "", false, x -> x.beat(1));
        question("law", "", false, x -> x.law(1, 9));
        question("mean", "", false, x -> x.mean(1, 1));
        question("last", "", false, x -> x.last(1));
        question("buy", "", false, FourAPole::buy);
        question("game", "010", true, FourAPole::game);
        question("lot", "010", true, FourAPole::lot);
        question("share", "01", true, x -> x.share(1));
        question("through", "", false, x -> x.through(1, 5000));
        question("built", "", false, x -> x.built(0, 5000, 0));
        question("built the other way", "", false, x -> x.built(1, 1, 6));
        question("fair", "", false, x -> x.fair(1));
        question("parts", "", false, FourAPole::parts);
        question("riders", "", false, x -> x.riders(0, 2));
        question("wind", "", false, x -> x.wind(0, 1, 2, 50));
        question("count", "", false, x -> x.count(5));
        question("row", "", false, x -> x.row(0));
    }

    /** The last of 512 calls answers as the first ones do. */
    private static void longUse() {
        FourAPole x = Check.course("u0@40", "400000", "a");
        int can = 0;
        // Some 30 calls are gone by now; each turn takes 6 or fewer.
        for (int i = 0; i < 80; i++) {
            Check.due("told", x.told(i % 6, 0, i % 100, i), 1);
            can = Math.min(12, can + 1);
            Check.due("its TENTHS", x.round(0, 3), i);
            if (i % 2 == 0) {
                can--;
                Check.due("undone", x.undo(), can);
            } else {
                can = Math.min(12, can + 1);
                Check.due("struck", Check.text(x, "x").show(), 1);
            }
        }
        Check.due("twelve can be undone", x.count(5), 12);
        Check.due("no ROUND", x.count(3), 0);
    }
}
