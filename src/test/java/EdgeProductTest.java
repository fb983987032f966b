import java.util.ArrayList;
import java.util.List;

/** Every call with every choice of numbers at, inside and outside their boundaries, all at once, held against Slow. */
public final class EdgeProductTest {
    /** By call, what each of its numbers is: f a FENCE, h a HORSE, p a PLAN, i a ROUND, others the most that it may be. */
    private static final String[] CALLS = {"end 11", "fence f 2", "horse h 5", "raise f 9", "move f 99", "allow 9999", "sheet 3 8 9 1", "jump h f 7",
        "strides h f", "calm h f", "fear h p", "falls h p", "poles h p 8", "cuts h p", "curve h 9999", "quick h 9999", "sure h", "ride 5 h p 1",
        "look h p 1", "told 5 h 99 9999", "undo", "round i 5", "table", "place 99 9999", "beat 12", "law 999 9", "mean h p", "last h", "buy", "share 5",
        "through p 10000", "built p 10000 6", "fair f", "parts", "riders 5 5", "wind f h h 100", "keep 1", "again 1", "count 8", "row 12"};
    private static final String[] READERS = {"ring", "horses", "plan", "rule", "prizes", "show", "game", "lot", "share"};
    private static final String[] TEXTS = {"", "0", "00", "01", "010", "0101", "6", "x", "aaaa", "u1@10", "300000", "t00:1+1", "r000*1", "x;x", "12,8"};

    private static Pair both;
    private static String state;

    private EdgeProductTest() {
    }

    public static void main(String[] args) {
        state("nothing there", "", "", 0, 0);
        state("no FENCES", "", "400000", 1, 2);
        state("no HORSES", "u1@10;d9@99", "", 2, 0);
        state("no PLANS", "u1@10;d9@99", "400000;911114", 0, 3);
        state("one of each", "l0@13", "900000", 1, 1);
        state("some", "u3@40;w4@36;l2@24", "455555;639993", 2, 7);
        state("room for one", "d9@99;l0@10;u5@50", "300000;400001;500012;600123;701234;912345", 6, 11);
        state("as many as can be", "l9@98;d0@11;w5@50", "300000;400001;500012;600123;701234;912345", 6, 12);
        Check.end("EdgeProductTest");
    }

    private static void state(String name, String ring, String horses, int plans, int rounds) {
        state = name;
        both = new Pair();
        read("ring", ring);
        read("horses", horses);
        for (int i = 0; i < plans; i++) {
            read("plan", "abcdefgh".repeat(2).substring(i, i + both.count(0)));
        }
        for (int i = 0; i < rounds; i++) {
            both.call("told", "told", i % 6, i % Math.max(1, both.count(1)), i % 3 * 4, 200 - i % 5);
        }
        both.call("keep", "keep", rounds % 2);
        for (String call : CALLS) {
            String[] words = call.split(" ");
            List<int[]> choices = new ArrayList<>();
            for (int i = 1; i < words.length; i++) {
                choices.add(choices(words[i]));
            }
            all(words[0], choices, new int[4], 0);
        }
        for (String reader : READERS) {
            for (String text : TEXTS) {
                read(reader, text);
            }
        }
    }

    private static void read(String name, String text) {
        both.put(text);
        both.call(state + ": " + name + " of " + text, name, 1);
    }

    private static int[] choices(String kind) {
        int most = switch (kind) {
            case "f" -> both.count(0) - 1;
            case "h" -> both.count(1) - 1;
            case "p" -> both.count(2) - 1;
            case "i" -> both.count(3) - 1;
            default -> Integer.parseInt(kind);
        };
        return new int[] {Edge.MIN, -2, -1, 0, 1, most - 1, most, most + 1, Edge.MAX};
    }

    private static void all(String name, List<int[]> choices, int[] a, int next) {
        if (next < choices.size()) {
            for (int choice : choices.get(next)) {
                a[next] = choice;
                all(name, choices, a, next + 1);
            }
            return;
        }
        String what = state + ": " + name + "(" + a[0] + ", " + a[1] + ", " + a[2] + ", " + a[3] + ")";
        if (name.equals("end") || name.equals("share")) {
            both.put(name.equals("end") ? Edge.TEXT : "00");
        }
        long answer = both.call(what, name, a.clone());
        if (answer >= 0 && (name.equals("ride") || name.equals("told"))) {
            both.call(what + " undone", "undo");
        }
    }
}
