/** Promises 35 to 40: what a plan wins, for the last one, for up to three to come, and when to share. */
public final class MoneyTest {
    private static final int MIN = Integer.MIN_VALUE;
    private static final int MAX = Integer.MAX_VALUE;

    private MoneyTest() {
    }

    public static void main(String[] args) {
        mean();
        meanLate();
        last();
        buy();
        game();
        gameTexts();
        lot();
        share();
        Check.end("MoneyTest");
    }

    /** Poles by scope and pace: horse 0 is clear for sure by PLAN 0 (60 tenths), to 7 of 10 by PLAN 1 (30); horse 1 to 5, 2. */
    private static FourAPole fresh() {
        FourAPole x = Check.course("u0@40", "400000;450000", "a", "d");
        Check.text(x, "s*10+p*10").rule();
        return x;
    }

    private static void mean() {
        FourAPole x = fresh();
        Check.due("alone", x.mean(0, 1), 500000);
        Check.rowIs("alone", x, 50, 50);
        x.told(0, 0, 0, 50);
        Check.due("slow and sure", x.mean(0, 0), 300000);
        Check.rowIs("slow and sure", x, 30, 30);
        Check.due("fast", x.mean(0, 1), 7000 * 50 + 3000 * 30);
        Check.rowIs("fast", x, 50, 30);
        Check.due("fast, another", x.mean(1, 1), 2000 * 50 + 8000 * 30);
        int[][] bad = {{-1, 0}, {2, 0}, {0, -1}, {0, 2}, {MIN, MAX}};
        for (int[] b : bad) {
            Check.due("mean(" + b[0] + ", " + b[1] + ")", x.mean(b[0], b[1]), -1);
        }
        Check.rowIs("refused: the row stays", x, 50, 30);
        x.told(0, 0, 0, 30);
        Check.due("as fast is behind", x.mean(0, 1), 7000 * 30 + 3000 * 20);
        for (int i = 2; i < 12; i++) {
            x.told(0, 0, 0, 0);
        }
        Check.due("behind twelve", x.mean(0, 1), 0);
        Check.rowIs("behind twelve", x, 0, 0);
    }

    private static void meanLate() {
        FourAPole x = fresh();
        x.allow(20);
        x.told(0, 0, 1, 0);
        x.told(0, 0, 4, 0);
        x.told(0, 0, 5, 0);
        // By PLAN 0 it is 40 too late: 1 FAULT, or 5; by PLAN 1 it is 10 too late: likewise.
        Check.due("late for one", x.mean(1, 0), 5000 * 30 + 5000 * 10);
        Check.rowIs("late for one", x, 30, 10);
        x.allow(19);
        Check.due("late for two", x.mean(1, 0), 5000 * 30 + 5000 * 10);
        x.told(0, 0, 1, 99);
        Check.due("late for two, behind one", x.mean(1, 0), 5000 * 20 + 5000 * 5);
        Check.due("late for one still", x.mean(1, 1), 2000 * 30 + 8000 * 5);
        x.allow(30);
        Check.due("not late at all", x.mean(1, 1), 2000 * 50 + 8000 * 10);
    }

    private static void last() {
        FourAPole x = fresh();
        Check.due("of equal plans the first", x.last(0), 0);
        Check.rowIs("of equal plans the first", x, 500000);
        x.told(0, 0, 0, 50);
        Check.due("the fast one", x.last(0), 1);
        Check.rowIs("the fast one", x, 440000);
        for (int bad : new int[] {-1, 2, MIN, MAX}) {
            Check.due("last(" + bad + ")", x.last(bad), -1);
        }
        Check.rowIs("refused: the row stays", x, 440000);
        FourAPole none = Check.course("u0@40", "400000");
        Check.due("no plans", none.last(0), -2);
        Check.due("no plans, no such horse", none.last(1), -1);
        Check.due("no plans: no row", none.count(6), 0);
    }

    private static void buy() {
        FourAPole x = fresh();
        x.told(0, 0, 0, 50);
        Check.due("buy", x.buy(), 0);
        Check.rowIs("buy", x, 440000, 1, 340000);
        Check.text(x, "400000").horses();
        Check.due("of equal horses the first", x.buy(), 0);
        Check.rowIs("of equal horses the first", x, 440000, 1, 440000);
        FourAPole turned = Check.course("u0@40", "450000;400000;420000", "a", "d");
        Check.text(turned, "s*10+p*10").rule();
        turned.told(0, 0, 0, 50);
        Check.due("the second horse", turned.buy(), 1);
        Check.rowIs("the second horse", turned, 440000, 1, 400000);
        FourAPole better = Check.course("u0@40", "490000;420000;400000", "a", "d");
        Check.text(better, "s*10+p*10").rule();
        better.told(0, 0, 0, 50);
        Check.due("each better than the one ahead", better.buy(), 2);
        Check.rowIs("each better than the one ahead", better, 440000, 1, 400000);
        FourAPole one = Check.course("u0@40", "400000", "a");
        Check.due("one horse", one.buy(), 0);
        Check.rowIs("one horse", one, 500000, 0, -1);
        Check.text(one, "0").prizes();
        Check.text(one, "400000").horses();
        Check.due("nothing to win", one.buy(), 0);
        Check.rowIs("nothing to win", one, 0, 0, 0);
        FourAPole noPlans = Check.course("u0@40", "400000");
        Check.due("no plans", noPlans.buy(), -2);
        FourAPole noHorses = Check.course("u0@40", "", "a");
        Check.due("no horses", noHorses.buy(), -2);
        Check.due("no horses: no row", noHorses.count(6), 0);
    }

    private static void game() {
        FourAPole x = fresh();
        Check.text(x, "10").prizes();
        // Sure of 60, it would lose to a clear fast one: 8. Fast, it wins 7 of 10, and half of the rest: 17 by 2.
        Check.due("the better one first", Check.text(x, "01").game(), 1);
        Check.rowIs("the better one first", x, 17, 2, 3, 2);
        Check.due("the worse one first", Check.text(x, "10").game(), 1);
        Check.rowIs("the worse one first", x, 2, 1, 8, 1);
        Check.due("alone", Check.text(x, "1").game(), 0);
        Check.rowIs("alone", x, 10, 1);
        x.told(5, 0, 4, 45);
        // Behind 4 FAULTS in 45: clear by a wins (5 of 10); by d, 4 FAULTS in 30 win too.
        Check.due("four faults fast are enough", Check.text(x, "1").game(), 1);
        Check.rowIs("four faults fast are enough", x, 10, 1);
        x.told(5, 0, 0, 45);
        Check.due("only clear and fast", Check.text(x, "1").game(), 1);
        Check.rowIs("only clear and fast", x, 2, 1);
        Check.text(x, "0").prizes();
        Check.due("nothing to win", Check.text(x, "011").game(), 0);
        Check.rowIs("nothing to win", x, 0, 1, 0, 1, 0, 1);
        Check.due("rounds stay", x.count(3), 2);
        Check.due("three of one horse", Check.text(x, "000").game(), 0);
        FourAPole three = Check.course("u0@40", "400000", "a", "d");
        Check.text(three, "p*10").rule();
        Check.text(three, "10").prizes();
        Check.due("three", Check.text(three, "000").game(), 1);
        Check.due("three: numbers", three.count(6), 6);
        long sum = 0;
        for (int i = 0; i < 3; i++) {
            sum += three.row(2 * i) * (1000000 / three.row(2 * i + 1));
        }
        Check.due("one of three wins all", sum, 10 * 1000000);
        Check.due("the first's upper", three.row(0), 7);
        Check.due("the first's lower", three.row(1), 1);
    }

    private static void gameFault(String text, int want) {
        FourAPole x = fresh();
        Check.due("game " + text, Check.text(x, text).game(), want);
        Check.due("game " + text + " empties the text", x.count(7), 0);
        Check.due("game " + text + " tells no row", x.count(6), 0);
    }

    private static void gameTexts() {
        gameFault("", -1);
        gameFault("2", -1);
        gameFault("x", -1);
        gameFault("02", -2);
        gameFault("0;", -2);
        gameFault("012", -3);
        gameFault("0101", -4);
        gameFault("010x", -4);
        gameFault("01x1", -3);
        FourAPole none = Check.course("u0@40", "400000");
        Check.due("no plans", Check.text(none, "0").game(), -100);
        Check.due("no plans: the text is empty", none.count(7), 0);
        Check.due("no plans are asked first", Check.text(none, "xx").game(), -100);
        Check.due("lot: no plans", Check.text(none, "x").lot(), -100);
        Check.due("lot: the text is empty", none.count(7), 0);
        Check.due("share: no plans", Check.text(none, "x").share(9), -100);
        Check.due("share: the text is empty", none.count(7), 0);
        FourAPole noHorses = Check.course("u0@40", "", "a");
        Check.due("no horses", Check.text(noHorses, "0").game(), -1);
    }

    private static void lot() {
        FourAPole x = fresh();
        Check.text(x, "10").prizes();
        Check.due("the better one had best be first", Check.text(x, "01").lot(), 0);
        Check.rowIs("the better one had best be first", x, 17, 2);
        Check.due("so had the worse one", Check.text(x, "10").lot(), 0);
        Check.rowIs("so had the worse one", x, 2, 1);
        x.told(0, 0, 0, 45);
        Check.text(x, "10,10,10,10").prizes();
        Check.due("of equal places the first", Check.text(x, "011").lot(), 0);
        Check.rowIs("of equal places the first", x, 10, 1);
        // The last of four wins nothing: coming last it loses only behind two clear fast ones (4 of 100), clear to 7 of 10.
        Check.text(x, "10,10,10").prizes();
        Check.due("who comes last knows most", Check.text(x, "011").lot(), 2);
        Check.rowIs("who comes last knows most", x, 247, 25);
        FourAPole last = fresh();
        Check.due("lot of one", Check.text(last, "0").lot(), -2);
        Check.due("lot of another sign", Check.text(last, "x").lot(), -1);
        Check.due("lot of none", Check.text(last, "").lot(), -1);
        Check.due("lot of four", Check.text(last, "0101").lot(), -4);
        Check.due("lot with none such", Check.text(last, "02").lot(), -2);
        Check.due("lot empties the text", last.count(7), 0);
        Check.due("refused: no row", last.count(6), 0);
    }

    private static void share() {
        FourAPole x = fresh();
        Check.text(x, "10").prizes();
        Check.due("the better one won't", Check.text(x, "01").share(1), 0);
        Check.rowIs("the better one won't", x, 10, 17, 2, 3, 2);
        Check.text(x, "17").prizes();
        Check.due("just not", Check.text(x, "01").share(1), 0);
        Check.text(x, "10,10").prizes();
        Check.due("no less is enough", Check.text(x, "01").share(1), 1);
        Check.rowIs("no less is enough", x, 20, 10, 1, 10, 1);
        Check.due("of the second and third place", Check.text(x, "01").share(2), 0);
        Check.rowIs("of the second and third place", x, 10, 10, 1, 10, 1);
        Check.text(x, "0,0,0,0,3,4").prizes();
        Check.due("of the fifth and sixth", Check.text(x, "10").share(5), 1);
        Check.rowIs("of the fifth and sixth", x, 7, 0, 1, 0, 1);
        Check.due("the sixth", Check.text(x, "10").share(6), -200);
        Check.due("the text is empty", x.count(7), 0);
        for (int bad : new int[] {0, -1, 6, MIN, MAX}) {
            Check.due("share(" + bad + ")", Check.text(x, "zz").share(bad), -200);
        }
        FourAPole onePlan = Check.course("u0@40", "400000", "a");
        Check.due("share with one plan", Check.text(onePlan, "00").share(0), -200);
        Check.due("share of none", Check.text(x, "").share(1), -1);
        Check.due("share of one", Check.text(x, "0").share(1), -2);
        Check.due("share of three", Check.text(x, "010").share(1), -3);
        Check.due("share with none such", Check.text(x, "20").share(1), -1);
        Check.due("share with another sign", Check.text(x, "0a").share(1), -2);
        Check.rowIs("refused: the row stays", x, 7, 0, 1, 0, 1);
    }
}
