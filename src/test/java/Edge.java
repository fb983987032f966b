import java.util.ArrayList;
import java.util.List;
import java.util.NoSuchElementException;

/** What tests at a boundary need: objects with nothing, some and all there can be; calls that must change nothing; signs that can't stand. */
final class Edge {
    static final int MIN = Integer.MIN_VALUE;
    static final int MAX = Integer.MAX_VALUE;
    static final long THROWN = Long.MIN_VALUE;
    /** A RING, so that what is left of THE TEXT can be seen by ring(). */
    static final String TEXT = "w7@77;l1@11";
    static final String DIGITS = "0123456789";
    private static final int ASPECTS = 7;

    private Edge() {
    }

    interface Maker {
        FourAPole make();
    }

    interface Ask {
        long of(FourAPole x);
    }

    static FourAPole none() {
        return new FourAPole();
    }

    /** 3 FENCES, 2 HORSES, 2 PLANS, 3 ROUNDS and as many to undo, a TABLE of one ROUND kept under 1, a ROW of one number. */
    static FourAPole some() {
        FourAPole x = Check.course("u3@40;w4@36;l2@24", "455555;639993", "aaa", "hhh");
        Check.text(x, "h*4+x*3").rule();
        Check.text(x, "60,40,20,10,7").prizes();
        x.allow(100);
        x.told(0, 0, 0, 120);
        x.keep(1);
        x.told(1, 1, 4, 90);
        x.told(2, 0, 0, 100);
        x.place(0, 110);
        return x;
    }

    /** 8 FENCES, 6 HORSES, 6 PLANS, 12 ROUNDS and as many to undo, both TABLES kept, a ROW of 12 numbers. */
    static FourAPole full() {
        FourAPole x = Check.course("u1@10;w2@20;d3@30;l4@41;u5@50;w6@60;d7@70;l9@99",
            "300000;411111;522222;633333;744444;999999", "aaaaaaaa", "bbbbbbbb", "abcdefgh", "efghabcd", "hgfedcba", "hhhhhhhh");
        x.keep(1);
        for (int i = 0; i < 12; i++) {
            x.told(i % 6, i % 5, i % 4, 100 - i);
        }
        x.keep(0);
        x.table();
        return x;
    }

    /** As full(), with room for one ROUND more. */
    static FourAPole roomy() {
        FourAPole x = full();
        x.undo();
        return x;
    }

    static long answer(FourAPole x, Ask ask) {
        try {
            return ask.of(x);
        } catch (NoSuchElementException e) {
            return THROWN;
        }
    }

    /** It answers so, and all that can be seen is as on an object that was not asked, THE TEXT too. */
    static void changesNothing(String what, Maker maker, long want, Ask ask) {
        for (int aspect = 0; aspect < ASPECTS; aspect++) {
            FourAPole x = Check.text(maker.make(), TEXT);
            Check.due(what, answer(x, ask), want);
            Check.due(what + " leaves aspect " + aspect, seen(x, aspect).equals(seen(Check.text(maker.make(), TEXT), aspect)), true);
        }
    }

    /** A call that reads THE TEXT answers so, THE TEXT is empty, and all else is as on an object that was not asked. */
    static void changesTextAlone(String what, Maker maker, String text, long want, Ask ask) {
        for (int aspect = 0; aspect < ASPECTS; aspect++) {
            FourAPole x = Check.text(maker.make(), text);
            Check.due(what + " with " + text, answer(x, ask), want);
            Check.due(what + " with " + text + " leaves aspect " + aspect, seen(x, aspect).equals(seen(maker.make(), aspect)), true);
        }
    }

    /** Each aspect has an object of its own, so that none is used for more than 512 calls. */
    private static List<Long> seen(FourAPole x, int aspect) {
        List<Long> all = new ArrayList<>();
        switch (aspect) {
            case 0 -> state(x, all);
            case 1 -> odds(x, all);
            case 2 -> looks(x, all);
            case 3 -> undone(x, all);
            case 4 -> again(x, all);
            case 5 -> {
                all.add((long) x.ring());
                state(x, all);
            }
            default -> money(x, all);
        }
        return all;
    }

    private static void state(FourAPole x, List<Long> all) {
        for (int i = 0; i < 9; i++) {
            all.add((long) x.count(i));
        }
        for (int i = 0; i < x.count(6); i++) {
            all.add(x.row(i));
        }
        for (int i = 0; i < 3 * x.count(0); i++) {
            all.add((long) x.fence(i / 3, i % 3));
        }
        for (int i = 0; i < 6 * x.count(1); i++) {
            all.add((long) x.horse(i / 6, i % 6));
        }
        rounds(x, all);
    }

    private static void rounds(FourAPole x, List<Long> all) {
        for (int i = 0; i < 4 * x.count(3); i++) {
            all.add((long) x.round(i / 4, i % 4));
        }
    }

    private static void odds(FourAPole x, List<Long> all) {
        for (int h = 0; h < x.count(1); h++) {
            for (int f = 0; f < x.count(0); f++) {
                all.add((long) x.jump(h, f, 0));
                all.add((long) x.jump(h, f, 7));
            }
            for (int p = 0; p < x.count(2); p++) {
                all.add((long) x.poles(h, p, 0));
                all.add((long) x.poles(h, p, 1));
            }
        }
    }

    private static void looks(FourAPole x, List<Long> all) {
        for (int i = 0; i < x.count(1) * x.count(2); i++) {
            all.add((long) x.look(i / x.count(2), i % x.count(2), 4711));
            all.add(x.row(0));
            all.add(x.row(1));
            all.add(x.row(2));
        }
    }

    private static void undone(FourAPole x, List<Long> all) {
        for (int i = 0; i < 13; i++) {
            all.add((long) x.undo());
            all.add((long) x.count(3));
            for (int what = 0; what < 4 && x.count(3) > 0; what++) {
                all.add((long) x.round(x.count(3) - 1, what));
            }
        }
        rounds(x, all);
    }

    private static void again(FourAPole x, List<Long> all) {
        for (int i = 0; i < 2; i++) {
            all.add(x.again(i) ? 1L : 0L);
            rounds(x, all);
        }
    }

    /** With twelve ROUNDS all places can be seen. */
    private static void money(FourAPole x, List<Long> all) {
        for (int i = 0; i < 12; i++) {
            x.told(0, 0, 99, 9999);
        }
        for (int i = 0; i < x.count(3); i++) {
            all.add((long) x.round(i, 5));
        }
    }

    /** Of all 256 signs just those allowed can stand behind what is ahead: another one is what the answer names. */
    static void signsBehind(String ahead, String allowed, Maker maker, Ask ask) {
        for (int sign = 0; sign < 256; sign++) {
            String text = ahead + (char) sign;
            long got = answer(Check.text(maker.make(), text), ask);
            boolean named = got == -1 - ahead.length();
            Check.due("sign " + sign + " behind '" + ahead + "' can stand", !named, allowed.indexOf(sign) >= 0);
            if (!named) {
                Check.due("sign " + sign + " behind '" + ahead + "' ends it or is followed by its end", got >= 0 || got == -1 - text.length(), true);
            }
        }
    }

    /** Each beginning of a text answers what is due for it, or, if it ends too early, its end. */
    static void beginnings(String text, String ends, Maker maker, Ask ask, int... due) {
        String[] whole = ends.split(" ");
        for (int n = 0; n <= text.length(); n++) {
            int want = -1 - n;
            for (int i = 0; i < whole.length; i++) {
                want = Integer.parseInt(whole[i]) == n ? due[i] : want;
            }
            String begin = text.substring(0, n);
            FourAPole x = Check.text(maker.make(), begin);
            Check.due("'" + begin + "'", answer(x, ask), want);
            Check.due("'" + begin + "' empties the text", x.count(7), 0);
        }
    }

    static String digitsFrom(int least, int most) {
        return DIGITS.substring(least, most + 1);
    }

    static String ring(int fences) {
        return fences == 0 ? "" : "u1@10" + Check.times(";w2@20", fences - 1);
    }

    static String horses(int n) {
        return n == 0 ? "" : "300000" + Check.times(";912345", n - 1);
    }
}
