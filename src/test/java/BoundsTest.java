/** Every number that a call of the face takes: at its least and its most, one step inside, one step outside, and far outside. */
public final class BoundsTest {
    private BoundsTest() {
    }

    interface Call {
        long of(FourAPole x, int[] a);
    }


    private static Edge.Maker maker;
    private static String state;
    private static int fence;
    private static int horse;
    private static int plan;
    private static int round;
    private static int number;

    public static void main(String[] args) {
        state("nothing there", Edge::none);
        state("some there", Edge::some);
        state("all there", Edge::full);
        state("room for one more", Edge::roomy);
        Check.end("BoundsTest");
    }

    private static void state(String name, Edge.Maker made) {
        state = name;
        maker = made;
        FourAPole x = made.make();
        fence = x.count(0) - 1;
        horse = x.count(1) - 1;
        plan = x.count(2) - 1;
        round = x.count(3) - 1;
        number = x.count(6) - 1;
        rings();
        plans();
        rounds();
        others();
    }

    private static void rings() {
        bound("end", 0, (x, a) -> x.end(a[0]) ? 1 : 0, 0, Edge.TEXT.length());
        bound("fence", Edge.THROWN, (x, a) -> x.fence(a[0], a[1]), 0, fence, 0, 2);
        bound("horse", Edge.THROWN, (x, a) -> x.horse(a[0], a[1]), 0, horse, 0, 5);
        bound("raise", -1, (x, a) -> x.raise(a[0], a[1]), 0, fence, 0, 9);
        bound("move", -1, (x, a) -> x.move(a[0], a[1]), 0, fence, 10, 99);
        bound("allow", -1, (x, a) -> x.allow(a[0]), 0, 9999);
        bound("jump", -1, (x, a) -> x.jump(a[0], a[1], a[2]), 0, horse, 0, fence, 0, 7);
        bound("strides", -1, (x, a) -> x.strides(a[0], a[1]), 0, horse, 0, fence);
        bound("calm", -1, (x, a) -> x.calm(a[0], a[1]), 0, horse, 0, fence);
    }

    private static void plans() {
        bound("fear", -1, (x, a) -> x.fear(a[0], a[1]), 0, horse, 0, plan);
        bound("falls", -1, (x, a) -> x.falls(a[0], a[1]), 0, horse, 0, plan);
        bound("poles", -1, (x, a) -> x.poles(a[0], a[1], a[2]), 0, horse, 0, plan, 0, 8);
        bound("cuts", -1, (x, a) -> x.cuts(a[0], a[1]), 0, horse, 0, plan);
        bound("curve", -1, (x, a) -> x.curve(a[0], a[1]), 0, horse, 0, 9999);
        bound("quick", -1, (x, a) -> x.quick(a[0], a[1]), 0, horse, 0, 9999);
        bound("sure", -1, (x, a) -> x.sure(a[0]), 0, horse);
    }

    private static void rounds() {
        bound("ride", -1, (x, a) -> x.ride(a[0], a[1], a[2], 5), 0, 5, 0, horse, 0, plan);
        bound("look", -1, (x, a) -> x.look(a[0], a[1], 5), 0, horse, 0, plan);
        bound("told", -1, (x, a) -> x.told(a[0], a[1], a[2], a[3]), 0, 5, 0, horse, 0, 99, 0, 9999);
        bound("round", Edge.THROWN, (x, a) -> x.round(a[0], a[1]), 0, round, 0, 5);
        bound("place", -1, (x, a) -> x.place(a[0], a[1]), 0, 99, 0, 9999);
        bound("beat", -1, (x, a) -> x.beat(a[0]), 1, 12);
        bound("law", -1, (x, a) -> x.law(a[0], a[1]), 1, 999, 0, 9);
        bound("mean", -1, (x, a) -> x.mean(a[0], a[1]), 0, horse, 0, plan);
        bound("last", -1, (x, a) -> x.last(a[0]), 0, horse);
    }

    private static void others() {
        bound("through", -1, (x, a) -> x.through(a[0], a[1]), 0, plan, 0, 10000);
        bound("built", -2, (x, a) -> x.built(a[0], a[1], a[2]), 0, plan, 0, 10000, 0, 6);
        bound("fair", -1, (x, a) -> x.fair(a[0]), 0, fence);
        bound("riders", -1, (x, a) -> x.riders(a[0], 0), 1, 5);
        bound("riders, the other", -1, (x, a) -> x.riders(5, a[0]), 0, 4);
        int none = plan < 0 ? -1 : 0;
        bound("wind of none", -1, (x, a) -> x.wind(a[0], 0, a[1], a[2]), 0, fence, 0, none + horse + 1, 0, 100);
        bound("wind of all", -1, (x, a) -> x.wind(0, a[0], horse + 1, 50), 0, none + horse + 1);
        bound("keep", 0, (x, a) -> x.keep(a[0]) ? 1 : 0, 0, 1);
        bound("again", 0, (x, a) -> x.again(a[0]) ? 1 : 0, fence == 2 ? 1 : 0, fence > 0 ? 1 : -1);
        bound("count", -1, (x, a) -> x.count(a[0]), 0, 8);
        bound("row", Edge.THROWN, (x, a) -> x.row(a[0]), 0, number);
    }

    /** Each number of a call by its least and its most; others stand at their least meanwhile, and again at their most. */
    private static void bound(String name, long refused, Call call, int... ranges) {
        int n = ranges.length / 2;
        for (int i = 0; i < n; i++) {
            int least = ranges[2 * i];
            int most = ranges[2 * i + 1];
            for (int end = 0; end < 2; end++) {
                int[] a = new int[n];
                for (int j = 0; j < n; j++) {
                    a[j] = ranges[2 * j + end];
                }
                for (int out : new int[] {least - 1, most + 1, Edge.MIN, Edge.MAX, least - 2, most + 2, least - 256, most + 65536}) {
                    a[i] = out;
                    refuse(name, refused, call, a.clone());
                }
                for (int in : new int[] {least, least + 1, most - 1, most}) {
                    a[i] = in;
                    boolean all = isIn(a, ranges);
                    long got = Edge.answer(Check.text(maker.make(), Edge.TEXT), x -> call.of(x, a));
                    Check.due(told(name, a) + " is not refused", got != refused, all);
                }
            }
        }
    }

    private static boolean isIn(int[] a, int[] ranges) {
        boolean all = true;
        for (int j = 0; j < a.length; j++) {
            all &= a[j] >= ranges[2 * j] && a[j] <= ranges[2 * j + 1];
        }
        return all;
    }

    private static void refuse(String name, long refused, Call call, int[] a) {
        Edge.changesNothing(told(name, a), maker, refused, x -> call.of(x, a));
    }

    private static String told(String name, int[] a) {
        StringBuilder s = new StringBuilder(state).append(": ").append(name);
        for (int v : a) {
            s.append(' ').append(v);
        }
        return s.toString();
    }
}
