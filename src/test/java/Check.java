import java.util.NoSuchElementException;

/** What every test here needs: texts put sign by sign, answers compared, one exit code. */
final class Check {
    private static int wrong = 0;
    private static int asked = 0;

    private Check() {
    }

    interface Call {
        long answer();
    }

    static void due(String what, long got, long want) {
        asked++;
        if (got != want) {
            wrong++;
            System.out.println(what + " answered " + got + ", due is " + want);
        }
    }

    static void due(String what, boolean got, boolean want) {
        due(what, got ? 1 : 0, want ? 1 : 0);
    }

    static void rowIs(String what, FourAPole x, long... want) {
        due(what + ": numbers of the row", x.count(6), want.length);
        for (int i = 0; i < want.length && i < x.count(6); i++) {
            due(what + ": row(" + i + ")", x.row(i), want[i]);
        }
    }

    static void throwsNoSuch(String what, Call call) {
        int thrown = 0;
        try {
            call.answer();
        } catch (NoSuchElementException e) {
            thrown = 1;
        }
        due(what + " throws NoSuchElementException", thrown, 1);
    }

    /** THE TEXT becomes these signs. */
    static FourAPole text(FourAPole x, String signs) {
        x.end(0);
        for (int i = 0; i < signs.length(); i += 4) {
            int v = 0;
            for (int j = i; j < i + 4; j++) {
                v = v << 8 | (j < signs.length() ? signs.charAt(j) & 255 : 0);
            }
            x.sign(v);
        }
        x.end(signs.length());
        return x;
    }

    static FourAPole course(String ring, String horses, String... plans) {
        FourAPole x = new FourAPole();
        if (!ring.isEmpty()) {
            due("ring " + ring, text(x, ring).ring(), ring.split(";").length);
        }
        if (!horses.isEmpty()) {
            due("horses " + horses, text(x, horses).horses(), horses.split(";").length);
        }
        for (int i = 0; i < plans.length; i++) {
            due("plan " + plans[i], text(x, plans[i]).plan(), i);
        }
        return x;
    }

    static String times(String part, int n) {
        return part.repeat(n);
    }

    static void end(String name) {
        System.out.println(name + ": " + asked + " answers, " + wrong + " wrong");
        if (wrong != 0) {
            System.exit(1);
        }
    }
}
