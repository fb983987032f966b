/** Promises 1 to 8: a new object, and what texts tell. */
public final class TextsTest {
    private static final String RING = "u3@42;w9@99;d6@41;l0@10";

    private TextsTest() {
    }

    public static void main(String[] args) {
        newObject();
        signs();
        rings();
        ringsStartAnew();
        horses();
        plans();
        rulesAsTexts();
        rulesAsNumbers();
        prizes();
        Check.end("TextsTest");
    }

    private static void newObject() {
        FourAPole x = new FourAPole();
        int[] want = {0, 0, 0, 0, 600, 0, 0, 0, 120};
        for (int i = 0; i < want.length; i++) {
            Check.due("new object: count(" + i + ")", x.count(i), want[i]);
        }
        Check.due("new object: no fence", x.raise(0, 1), -1);
        Check.due("new object: nothing kept", x.again(0), false);
        Check.due("NONE", FourAPole.NONE, -1);
    }

    private static void signs() {
        FourAPole x = new FourAPole();
        for (int i = 1; i <= 20; i++) {
            Check.due("sign", x.sign(0x41424344), 4 * i);
        }
        Check.due("sign behind 80", x.sign(0), -1);
        Check.due("80 stay", x.count(7), 80);
        Check.due("end(81)", x.end(81), false);
        Check.due("end(-1)", x.end(-1), false);
        Check.due("end(80)", x.end(80), true);
        Check.due("end(77)", x.end(77), true);
        Check.due("sign at 77", x.sign(0), -1);
        Check.due("77 stay", x.count(7), 77);
        Check.due("end(76)", x.end(76), true);
        Check.due("end(77) of 76", x.end(77), false);
        Check.due("sign at 76", x.sign(0), 80);
        Check.due("end(MIN)", x.end(Integer.MIN_VALUE), false);
        Check.due("end(0)", x.end(0), true);
        Check.due("the highest byte first", x.sign(0x75374033) + x.sign(0x35000000), 12);
        x.end(5);
        Check.due("ring of signs", x.ring(), 1);
        Check.due("its height", x.fence(0, 1), 7);
        Check.due("its feet", x.fence(0, 2), 35);
        x.sign(0xFFB1B080);
        Check.due("signs above 127 are no digits", x.horses(), -1);
    }

    private static void ring(String text, int want) {
        FourAPole x = Check.course("w1@10;u2@20", "");
        Check.due("ring " + text, Check.text(x, text).ring(), want);
        Check.due("ring " + text + " empties the text", x.count(7), 0);
        Check.due("ring " + text + ": fences", x.count(0), want > 0 ? want : 2);
        if (want < 0) {
            Check.due("ring " + text + " changes nothing", x.fence(0, 0) * 100 + x.fence(0, 1) * 10 + x.fence(1, 2), 130);
        }
    }

    private static void rings() {
        ring("", -1);
        ring("a", -1);
        ring("U1@10", -1);
        ring("u", -2);
        ring("u@", -2);
        ring("u1", -3);
        ring("u11", -3);
        ring("u1@", -4);
        ring("u1@09", -4);
        ring("u1@1", -5);
        ring("u1@1x", -5);
        ring("u1@100", -6);
        ring("u1@10,", -6);
        ring("u1@10;", -7);
        ring("u1@10;;", -7);
        ring("u1@10;w", -8);
        ring("u:", -2);
        ring("u/", -2);
        ring("u1@:", -4);
        ring("u1@1:", -5);
        ring("u1@1/", -5);
        ring("d0@99", 1);
        ring("u1@10;l9@10;d5@55", 3);
        ring("u0@10" + Check.times(";w1@11", 7), 8);
        ring("u0@10" + Check.times(";w1@11", 7) + ";", -49);
        ring("u0@10" + Check.times(";w1@11", 8), -49);
        ring("u0@10" + Check.times(";w1@11", 12), -49);
        ring("u0@10" + Check.times(";w1@11", 7) + "0", -48);
        ring("u1@1" + (char) 0, -5);
        FourAPole x = Check.course(RING, "");
        int[][] want = {{0, 3, 42}, {1, 9, 99}, {2, 6, 41}, {3, 0, 10}};
        for (int i = 0; i < want.length; i++) {
            for (int what = 0; what < 3; what++) {
                Check.due("fence(" + i + ", " + what + ")", x.fence(i, what), want[i][what]);
            }
        }
    }

    private static void ringsStartAnew() {
        FourAPole x = Check.course("u1@10", "455555", "a");
        Check.text(x, "7").rule();
        Check.text(x, "9").prizes();
        x.allow(77);
        x.told(0, 0, 0, 5);
        x.keep(0);
        x.keep(1);
        x.place(0, 0);
        Check.due("a refused ring", Check.text(x, "u").ring(), -2);
        Check.due("a refused ring: plans stay", x.count(2), 1);
        Check.due("a refused ring: rounds stay", x.count(3), 1);
        Check.due("a refused ring: undo stays", x.count(5), 1);
        Check.due("a refused ring: kept stays", x.again(1), true);
        x.told(0, 0, 0, 6);
        Check.due("ring anew", Check.text(x, "w2@20").ring(), 1);
        int[] want = {1, 1, 0, 0, 77, 0, 1, 0, 9};
        for (int i = 0; i < want.length; i++) {
            Check.due("ring anew: count(" + i + ")", x.count(i), want[i]);
        }
        Check.due("ring anew: nothing kept at 0", x.again(0), false);
        Check.due("ring anew: nothing kept at 1", x.again(1), false);
        Check.due("ring anew: nothing to undo", x.undo(), -1);
        Check.due("ring anew: the rule stays", x.jump(0, 0, 0), 7);
    }

    private static void horses(String text, int ahead, int want) {
        FourAPole x = Check.course("", ahead == 0 ? "" : "300000" + Check.times(";900000", ahead - 1));
        Check.due("horses " + text, Check.text(x, text).horses(), want);
        Check.due("horses " + text + ": how many", x.count(1), want > 0 ? ahead + want : ahead);
        Check.due("horses " + text + " empties the text", x.count(7), 0);
    }

    private static void horses() {
        horses("", 0, 0);
        horses("", 6, 0);
        horses("2", 0, -1);
        horses("2", 6, -1);
        horses("3", 6, -1);
        horses("3", 0, -2);
        horses("312", 0, -4);
        horses("31234", 0, -6);
        horses("3123a5", 0, -5);
        horses(":", 0, -1);
        horses("3:", 0, -2);
        horses("3/", 0, -2);
        horses("31234:", 0, -6);
        horses("312345", 0, 1);
        horses("3123456", 0, -7);
        horses("312345;", 0, -8);
        horses("312345;9", 0, -9);
        horses("312345;2", 0, -8);
        horses("300000;499999", 4, 2);
        horses("300000;499999;3", 4, -15);
        horses("300000;499999;", 4, -15);
        horses("300000;499999", 5, -8);
        horses("300000" + Check.times(";999999", 5), 0, 6);
        horses("300000" + Check.times(";999999", 6), 0, -43);
        horses("300000" + Check.times(";999999", 10), 0, -43);
        FourAPole x = Check.course("", "312345");
        Check.text(x, "967890;555555").horses();
        int[] first = {3, 1, 2, 3, 4, 5};
        int[] second = {9, 6, 7, 8, 9, 0};
        for (int i = 0; i < 6; i++) {
            Check.due("horse(0, " + i + ")", x.horse(0, i), first[i]);
            Check.due("horse(1, " + i + ")", x.horse(1, i), second[i]);
        }
    }

    private static void plan(String ring, String text, int want) {
        FourAPole x = Check.course(ring, "");
        Check.due("plan " + text, Check.text(x, text).plan(), want);
        Check.due("plan " + text + ": how many", x.count(2), want >= 0 ? 1 : 0);
        Check.due("plan " + text + " empties the text", x.count(7), 0);
    }

    private static void plans() {
        plan("", "", 0);
        plan("", "a", -1);
        plan("u1@10;u1@10", "", -1);
        plan("u1@10;u1@10", "a", -2);
        plan("u1@10;u1@10", "i", -1);
        plan("u1@10;u1@10", "ai", -2);
        plan("u1@10;u1@10", "aA", -2);
        plan("u1@10;u1@10", "ah", 0);
        plan("u1@10;u1@10", "aha", -3);
        plan("u1@10;u1@10", "ah!", -3);
        FourAPole x = Check.course("u1@10", "300000", "a", "b", "c", "d", "e", "f");
        Check.due("a seventh plan", Check.text(x, "g").plan(), -100);
        Check.due("a seventh plan that is none", Check.text(x, "zz").plan(), -100);
        Check.due("the text is empty then too", x.count(7), 0);
        Check.due("six stay", x.count(2), 6);
    }

    private static void rule(String text, int want) {
        FourAPole x = Check.course(RING, "571234");
        Check.text(x, "42").rule();
        Check.due("rule " + text, Check.text(x, text).rule(), want);
        Check.due("rule " + text + " empties the text", x.count(7), 0);
        if (want < 0) {
            Check.due("rule " + text + " leaves the rule", x.jump(0, 0, 0), 42);
        }
    }

    private static void rulesAsTexts() {
        rule("", 0);
        rule("z", -1);
        rule("h s", -2);
        rule("hs", -2);
        rule("*h", -1);
        rule("<h", -1);
        rule("h**s", -3);
        rule("h+", -3);
        rule("-", -2);
        rule("--", -3);
        rule("h+)", -3);
        rule("h)", -2);
        rule("()", -2);
        rule("(h", -3);
        rule("(h)(", -4);
        rule("(h)h", -4);
        rule("(h)1", -4);
        rule("h(", -2);
        rule(":", -1);
        rule("/", -1);
        rule("1:", -2);
        rule("123", 0);
        rule("1234", -4);
        rule("12h", -3);
        rule("h1", -2);
        rule("h<s<c", -4);
        rule("h<s=c", -4);
        rule("h=s+c>c", -6);
        rule("(h<s>c)", -5);
        rule("(h<s)=(c>p)", 0);
        rule("((((h))))", 0);
        rule("(((((h", -5);
        rule("(h)+((((h))))", 0);
        rule("(h)+(((((h)))))", -9);
        rule("h" + Check.times("+h", 19), 0);
        rule("10" + Check.times("+h", 19), 0);
        rule("100" + Check.times("+h", 19), -41);
        rule("h" + Check.times("+h", 19) + "+", -41);
        rule("h" + Check.times("+h", 19) + "+h", -41);
        rule("h" + Check.times("+h", 19) + "))", -40);
        rule("h++" + Check.times("+h", 19), -3);
        rule(Check.times("-", 80), -41);
        rule(Check.times("-", 39) + "h", 0);
        rule(Check.times("-", 40), -41);
        rule("h" + (char) 0, -2);
    }

    /** At fence 1 by the letter g: h 9, s 7, c 2, p 2, x 1, f 1, k 1, y 99. */
    private static void value(String text, int want) {
        FourAPole x = Check.course(RING, "571234");
        Check.due("rule " + text, Check.text(x, text).rule(), 0);
        Check.due("odds by " + text, x.jump(0, 1, 6), want);
    }

    private static void rulesAsNumbers() {
        String letters = "hscpxfky";
        int[] want = {9, 7, 2, 2, 1, 1, 1, 99};
        for (int i = 0; i < want.length; i++) {
            value(letters.substring(i, i + 1), want[i]);
        }
        value("y+1", 100);
        value("y+2", 100);
        value("-1", 0);
        value("0", 0);
        value("h-s-c", 0);
        value("h-(s-c)", 4);
        value("100/3/3", 11);
        value("100/(3/3)", 100);
        value("100/7*7", 98);
        value("5+7/0", 5);
        value("7/(h-9)", 0);
        value("10-7/2", 7);
        value("10+-7/2", 7);
        value("2+3*4", 14);
        value("(2+3)*4", 20);
        value("3<4", 1);
        value("4<4", 0);
        value("4>3", 1);
        value("4>4", 0);
        value("4=4", 1);
        value("4=3", 0);
        value("1+2<2*2", 1);
        value("(1<2)<2", 1);
        value("1<(2<2)", 0);
        value("(3>2)*7+(2>3)*50", 7);
        value("--5", 5);
        value("---5+10", 5);
        value("10--5", 15);
        value("10---5", 5);
        value("3*-2+10", 4);
        value("-h+s*3", 12);
        value("-(h-s)+5", 3);
        value("999*999*999*3<0", 1);
        value("999*999*999*999*0+7", 7);
        value("(1+(1+(1+(1+1))))", 5);
        value("", 3 * 9 - 14 - 2 + 4 + 4 + 2 + 5);
        FourAPole x = Check.course(RING, "571234");
        Check.text(x, "50").rule();
        Check.text(x, "").rule();
        Check.due("an empty text takes the rule away", x.jump(0, 1, 6), 26);
        Check.text(x, "50").rule();
        Check.text(x, "u1@10").ring();
        Check.due("a new ring leaves the rule", x.jump(0, 0, 0), 50);
    }

    private static void prizes(String text, int want, int sum) {
        FourAPole x = new FourAPole();
        Check.due("prizes " + text, Check.text(x, text).prizes(), want);
        Check.due("prizes " + text + ": sum", x.count(8), sum);
        Check.due("prizes " + text + " empties the text", x.count(7), 0);
    }

    private static void prizes() {
        prizes("", -1, 120);
        prizes(",", -1, 120);
        prizes("a", -1, 120);
        prizes("1a", -2, 120);
        prizes("123", -3, 120);
        prizes("12,", -4, 120);
        prizes("12,,", -4, 120);
        prizes(":", -1, 120);
        prizes("1:", -2, 120);
        prizes("1/", -2, 120);
        prizes("0", 1, 0);
        prizes("00", 1, 0);
        prizes("99,1", 2, 100);
        prizes("1,2,3,4,5,6", 6, 21);
        prizes("1,2,3,4,5,6,", -13, 120);
        prizes("1,2,3,4,5,6,7", -13, 120);
        prizes("99,99,99,99,99,99", 6, 594);
        prizes("99,99,99,99,99,99,9", -19, 120);
        prizes("99,99,99,99,99,999", -18, 120);
    }
}
