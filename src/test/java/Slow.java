import java.math.BigInteger;
import java.util.ArrayList;
import java.util.Arrays;
import java.util.List;
import java.util.NoSuchElementException;
import java.util.regex.Matcher;
import java.util.regex.Pattern;

/** The document once more, in the slowest and plainest way, to hold the class against: brute force wherever it can be. */
final class Slow {
    static final int NONE = -1;
    private static final String FENCE = "[uwdl][0-9]@[1-9][0-9]";
    private static final String HORSE = "[3-9][0-9]{5}";
    private static final String ACT = "(?:r[0-9]{3}\\*[0-9]|t[0-9]{2}:[0-9]{1,2}\\+[0-9]{1,4}|x)";
    private static final String PRIZE = "[0-9]{1,2}";
    private static final String USUAL = "h*3-s*2-c+p*p+x*4+f*2+5";

    private String text = "";
    private List<int[]> fences = new ArrayList<>();
    private final List<int[]> horses = new ArrayList<>();
    private final List<String> plans = new ArrayList<>();
    private String rule = USUAL;
    private int allowed = 600;
    private int[] money = {50, 30, 20, 10, 5, 5};
    private List<int[]> table = new ArrayList<>();
    private final List<List<int[]>> undos = new ArrayList<>();
    private final List<List<int[]>> kept = new ArrayList<>(Arrays.asList(null, null));
    private long[] row = {};

    // ---- texts

    int sign(int v) {
        if (text.length() + 4 > 80) {
            return NONE;
        }
        for (int i = 3; i >= 0; i--) {
            text += (char) (v >> 8 * i & 255);
        }
        return text.length();
    }

    boolean end(int n) {
        if (n < 0 || n > text.length()) {
            return false;
        }
        text = text.substring(0, n);
        return true;
    }

    private String takeText() {
        String was = text;
        text = "";
        return was;
    }

    /** The first place where so many signs can't begin a list of at most so many parts, or NONE if it is one. */
    private static int badSign(String signs, String part, String between, int most, int limit) {
        Pattern whole = Pattern.compile(part + "(?:" + between + part + "){0," + Math.max(0, most - 1) + "}", Pattern.DOTALL);
        Pattern full = Pattern.compile("(?:" + part + between + "){" + most + "}", Pattern.DOTALL);
        for (int p = 0; p < signs.length(); p++) {
            String begin = signs.substring(0, p + 1);
            Matcher matcher = whole.matcher(begin);
            boolean can = matcher.matches() || matcher.hitEnd();
            can = most > 0 && (can || full.matcher(begin).matches());
            if (p >= limit || !can) {
                return p;
            }
        }
        return most > 0 && whole.matcher(signs).matches() ? NONE : signs.length();
    }

    int ring() {
        String signs = takeText();
        int bad = badSign(signs, FENCE, ";", 8, 76);
        if (bad != NONE) {
            return -1 - bad;
        }
        fences = new ArrayList<>();
        for (String line : signs.split(";")) {
            fences.add(new int[] {"uwdl".indexOf(line.charAt(0)), line.charAt(1) - '0', Integer.parseInt(line.substring(3))});
        }
        plans.clear();
        table = new ArrayList<>();
        undos.clear();
        kept.set(0, null);
        kept.set(1, null);
        return fences.size();
    }

    int horses() {
        String signs = takeText();
        if (signs.isEmpty()) {
            return 0;
        }
        int bad = badSign(signs, HORSE, ";", 6 - horses.size(), 76);
        if (bad != NONE) {
            return -1 - bad;
        }
        String[] lines = signs.split(";");
        for (String line : lines) {
            int[] horse = new int[6];
            for (int i = 0; i < 6; i++) {
                horse[i] = line.charAt(i) - '0';
            }
            horses.add(horse);
        }
        return lines.length;
    }

    int plan() {
        String signs = takeText();
        if (plans.size() == 6) {
            return -100;
        }
        for (int p = 0; p < signs.length(); p++) {
            if (p >= fences.size() || signs.charAt(p) < 'a' || signs.charAt(p) > 'h') {
                return -1 - p;
            }
        }
        if (signs.length() < fences.size()) {
            return -1 - signs.length();
        }
        plans.add(signs);
        return plans.size() - 1;
    }

    int prizes() {
        String signs = takeText();
        int bad = badSign(signs, PRIZE, ",", 6, 80);
        if (bad != NONE) {
            return -1 - bad;
        }
        String[] parts = signs.split(",");
        money = new int[6];
        for (int i = 0; i < parts.length; i++) {
            money[i] = Integer.parseInt(parts[i]);
        }
        return parts.length;
    }

    int rule() {
        String signs = takeText();
        int bad = badInRule(signs);
        if (bad != NONE) {
            return -1 - bad;
        }
        rule = signs.isEmpty() ? USUAL : signs;
        return 0;
    }

    /** An automaton with a stack of "here a comparison has been". */
    private static int badInRule(String signs) {
        if (signs.isEmpty()) {
            return NONE;
        }
        boolean[] compared = new boolean[6];
        int depth = 0;
        boolean wanted = true;
        int digits = 0;
        for (int p = 0; p < signs.length(); p++) {
            char c = signs.charAt(p);
            boolean digit = c >= '0' && c <= '9';
            boolean can;
            if (p >= 40) {
                return 40;
            }
            if (wanted) {
                can = digit || "hscpxfky-".indexOf(c) >= 0 || c == '(' && depth < 4;
                digits = digit ? 1 : 0;
                if (c == '(' && can) {
                    depth++;
                    compared[depth] = false;
                }
                wanted = c == '-' || c == '(';
            } else if (digit) {
                can = digits > 0 && digits < 3;
                digits++;
            } else if (c == ')') {
                can = depth > 0;
                depth--;
                digits = 0;
            } else {
                boolean comparison = "<>=".indexOf(c) >= 0;
                can = "+-*/".indexOf(c) >= 0 || comparison && !compared[depth];
                compared[depth] |= comparison;
                wanted = true;
            }
            if (!can) {
                return p;
            }
        }
        return wanted || depth > 0 ? signs.length() : NONE;
    }

    /** By cutting the text at the sign that binds least. */
    private static int value(String e, int[] things) {
        for (String signs : new String[] {"<>=", "+-", "*/"}) {
            int at = lastJoin(e, signs);
            if (at > 0) {
                int a = value(e.substring(0, at), things);
                int b = value(e.substring(at + 1), things);
                switch (e.charAt(at)) {
                    case '<': return a < b ? 1 : 0;
                    case '>': return a > b ? 1 : 0;
                    case '=': return a == b ? 1 : 0;
                    case '+': return a + b;
                    case '-': return a - b;
                    case '*': return a * b;
                    default: return b == 0 ? 0 : (int) ((long) a / b);
                }
            }
        }
        if (e.charAt(0) == '-') {
            return -value(e.substring(1), things);
        }
        if (e.charAt(0) == '(') {
            return value(e.substring(1, e.length() - 1), things);
        }
        int thing = "hscpxfky".indexOf(e.charAt(0));
        return thing >= 0 ? things[thing] : Integer.parseInt(e);
    }

    private static int lastJoin(String e, String signs) {
        int depth = 0;
        for (int i = e.length() - 1; i > 0; i--) {
            char c = e.charAt(i);
            depth += c == ')' ? 1 : c == '(' ? -1 : 0;
            if (depth == 0 && signs.indexOf(c) >= 0 && "+-*/<>=(".indexOf(e.charAt(i - 1)) < 0) {
                return i;
            }
        }
        return NONE;
    }

    // ---- rings, horses, plans

    private boolean fenceIs(int i) {
        return i >= 0 && i < fences.size();
    }

    private boolean horseIs(int i) {
        return i >= 0 && i < horses.size();
    }

    private boolean planIs(int i) {
        return i >= 0 && i < plans.size();
    }

    int fence(int fence, int what) {
        if (!fenceIs(fence) || what < 0 || what > 2) {
            throw new NoSuchElementException();
        }
        return fences.get(fence)[what];
    }

    int horse(int horse, int what) {
        if (!horseIs(horse) || what < 0 || what > 5) {
            throw new NoSuchElementException();
        }
        return horses.get(horse)[what];
    }

    int raise(int fence, int v) {
        return change(fence, 1, v, 0, 9);
    }

    int move(int fence, int v) {
        return change(fence, 2, v, 10, 99);
    }

    private int change(int fence, int what, int v, int least, int most) {
        if (!fenceIs(fence) || v < least || v > most) {
            return NONE;
        }
        int was = fences.get(fence)[what];
        fences.get(fence)[what] = v;
        return was;
    }

    int allow(int v) {
        if (v < 0 || v > 9999) {
            return NONE;
        }
        int was = allowed;
        allowed = v;
        return was;
    }

    int sheet(int kind, int n, int f, int step) {
        if (kind < 0 || kind > 3 || n > 8) {
            return NONE;
        }
        if (kind < 3 && n < 0) {
            return -2;
        }
        int[] told = new int[8];
        for (int i = 0; i < n && kind < 3; i++) {
            int entry = f;
            for (int j = 0; j < i; j++) {
                entry += step;
            }
            long low = kind == 0 ? (entry & 255 ^ 128) - 128 : kind == 1 ? (entry & 65535 ^ 32768) - 32768 : entry;
            told[i] = low < 0 ? 0 : low > 9 ? 9 : (int) low;
        }
        int sum = 0;
        for (int i = 0; i < fences.size(); i++) {
            fences.get(i)[1] = told[i];
            sum += told[i];
        }
        return kind == 3 ? -3 : sum;
    }

    // ---- at a fence

    private int lean(int horse, int feet) {
        int stride = horses.get(horse)[0];
        int least = 99;
        for (int n = 0; n * stride <= feet + stride; n++) {
            least = Math.min(least, Math.abs(feet - n * stride));
        }
        return least;
    }

    private int pole(int horse, int fence, int letter) {
        int[] f = fences.get(fence);
        int[] h = horses.get(horse);
        int[] things = {f[1], h[1], h[2 + f[0]], letter & 3, letter >> 2, lean(horse, f[2]), fence, f[2]};
        int v = value(rule, things);
        return v < 0 ? 0 : v > 100 ? 100 : v;
    }

    private int refusal(int horse, int fence) {
        int lean = lean(horse, fences.get(fence)[2]);
        int odds = lean > 2 ? 8 * (lean - 2) : 0;
        return fences.get(fence)[0] == 3 && horses.get(horse)[5] < 5 ? odds + 5 : odds;
    }

    private int tenths(int fence, int letter) {
        int[] f = fences.get(fence);
        int t = f[2] * (6 - (letter & 3)) / 4 - (letter > 3 ? f[2] / 4 : 0) + (f[0] == 2 ? 2 : 0);
        return t < 1 ? 1 : t;
    }

    int jump(int horse, int fence, int letter) {
        if (!horseIs(horse) || !fenceIs(fence) || letter < 0 || letter > 7) {
            return NONE;
        }
        row = new long[] {refusal(horse, fence), tenths(fence, letter), lean(horse, fences.get(fence)[2])};
        return pole(horse, fence, letter);
    }

    int strides(int horse, int fence) {
        if (!horseIs(horse) || !fenceIs(fence)) {
            return NONE;
        }
        int feet = fences.get(fence)[2];
        int stride = horses.get(horse)[0];
        int n = feet / stride;
        int more = Math.abs((n + 1) * stride - feet) < Math.abs(n * stride - feet) ? 1 : 0;
        row = new long[] {lean(horse, feet), more};
        return n + more;
    }

    int calm(int horse, int fence) {
        if (!horseIs(horse) || !fenceIs(fence)) {
            return NONE;
        }
        long[] best = null;
        for (int letter = 0; letter < 8; letter++) {
            long[] that = {pole(horse, fence, letter) + refusal(horse, fence), tenths(fence, letter), letter};
            if (best == null || Arrays.compare(that, best) < 0) {
                best = that;
            }
        }
        row = new long[] {best[0], best[1]};
        return (int) best[2];
    }

    // ---- plans

    private int letter(int plan, int fence) {
        return plans.get(plan).charAt(fence) - 'a';
    }

    private int planTenths(int plan) {
        int sum = 0;
        for (int i = 0; i < fences.size(); i++) {
            sum += tenths(i, letter(plan, i));
        }
        return sum;
    }

    private int clear(int horse, int plan) {
        int c = 10000;
        for (int i = 0; i < fences.size(); i++) {
            c = c * (100 - refusal(horse, i)) / 100;
            c = c * (100 - pole(horse, i, letter(plan, i))) / 100;
        }
        return c;
    }

    int fear(int horse, int plan) {
        if (!horseIs(horse) || !planIs(plan)) {
            return NONE;
        }
        int sum = 0;
        for (int i = 0; i < fences.size(); i++) {
            sum += refusal(horse, i) + pole(horse, i, letter(plan, i));
        }
        row = new long[] {planTenths(plan), clear(horse, plan)};
        return sum;
    }

    int falls(int horse, int plan) {
        if (!horseIs(horse) || !planIs(plan)) {
            return NONE;
        }
        if (fences.isEmpty()) {
            return -2;
        }
        for (int odds = 100; odds >= 0; odds--) {
            for (int i = 0; i < fences.size(); i++) {
                if (pole(horse, i, letter(plan, i)) == odds) {
                    row = new long[] {odds};
                    return i;
                }
            }
        }
        throw new IllegalStateException();
    }

    int poles(int horse, int plan, int n) {
        if (!horseIs(horse) || !planIs(plan) || n < 0 || n > 8) {
            return NONE;
        }
        return poleChance(horse, plan, fences.size(), n);
    }

    private int poleChance(int horse, int plan, int ahead, int n) {
        if (ahead == 0 || n < 0) {
            return ahead == 0 && n == 0 ? 10000 : 0;
        }
        int odds = pole(horse, ahead - 1, letter(plan, ahead - 1));
        int stay = poleChance(horse, plan, ahead - 1, n) * (100 - odds) / 100;
        return stay + poleChance(horse, plan, ahead - 1, n - 1) * odds / 100;
    }

    int cuts(int horse, int plan) {
        if (!horseIs(horse) || !planIs(plan)) {
            return NONE;
        }
        long[] best = null;
        for (int i = 0; i < fences.size(); i++) {
            int letter = letter(plan, i);
            if (letter < 4) {
                long[] that = {pole(horse, i, letter + 4) - pole(horse, i, letter),
                    tenths(i, letter + 4) - tenths(i, letter), i};
                if (best == null || Arrays.compare(that, best) < 0) {
                    best = that;
                }
            }
        }
        if (best == null) {
            return -2;
        }
        row = new long[] {best[0], -best[1]};
        return (int) best[2];
    }

    int curve(int horse, int v) {
        if (!horseIs(horse) || v < 0 || v > 9999) {
            return NONE;
        }
        return search(horse, v, true);
    }

    int quick(int horse, int v) {
        if (!horseIs(horse) || v < 0 || v > 9999) {
            return NONE;
        }
        return search(horse, v, false);
    }

    int sure(int horse) {
        return horseIs(horse) ? search(horse, allowed, true) : NONE;
    }

    /** All letters of all FENCES in the order of rows, so that the first of equal ones is the least. */
    private int search(int horse, int v, boolean byFear) {
        int n = fences.size();
        int[] pick = new int[n];
        int[][] fear = new int[n][8];
        int[][] time = new int[n][8];
        for (int i = 0; i < n; i++) {
            for (int l = 0; l < 8; l++) {
                fear[i][l] = pole(horse, i, l) + refusal(horse, i);
                time[i][l] = tenths(i, l);
            }
        }
        long best = Long.MAX_VALUE;
        long bestPick = 0;
        long all = 1L << 3 * n;
        for (long p = 0; p < all; p++) {
            int f = 0;
            int t = 0;
            for (int i = 0; i < n; i++) {
                int l = (int) (p >> 3 * (n - 1 - i)) & 7;
                f += fear[i][l];
                t += time[i][l];
            }
            long key = byFear ? f * 100000L + t : t * 100000L + f;
            if ((byFear ? t : f) <= v && key < best) {
                best = key;
                bestPick = p;
            }
        }
        if (best == Long.MAX_VALUE) {
            return -2;
        }
        row = new long[1 + n];
        row[0] = best % 100000;
        for (int i = 0; i < n; i++) {
            row[1 + i] = bestPick >> 3 * (n - 1 - i) & 7;
        }
        return (int) (best / 100000);
    }

    // ---- rounds

    private void remember(List<int[]> was) {
        undos.add(was);
        if (undos.size() > 12) {
            undos.remove(0);
        }
    }

    private int[] draw(int horse, int plan, int seed) {
        long r = seed & 0xffffffffL;
        int faults = 0;
        int time = planTenths(plan);
        int refused = 0;
        int fell = 0;
        for (int i = 0; i < fences.size(); i++) {
            r = (r * 1103515245L + 12345L) & 0xffffffffL;
            if (r / 65536 % 100 < refusal(horse, i)) {
                refused += 1 << i;
                faults += 4;
                time += 60;
            }
            r = (r * 1103515245L + 12345L) & 0xffffffffL;
            if (r / 65536 % 100 < pole(horse, i, letter(plan, i))) {
                fell += 1 << i;
                faults += 4;
            }
        }
        row = new long[] {time, refused, fell, (int) r};
        return new int[] {faults + late(time, 40), time};
    }

    private int late(int time, int unit) {
        int n = 0;
        while (allowed + n * unit < time) {
            n++;
        }
        return n;
    }

    int ride(int rider, int horse, int plan, int seed) {
        List<int[]> was = new ArrayList<>(table);
        int answer = doRide(rider, horse, plan, seed);
        if (answer >= 0) {
            remember(was);
        }
        return answer;
    }

    private int doRide(int rider, int horse, int plan, int seed) {
        if (rider < 0 || rider > 5 || !horseIs(horse) || !planIs(plan)) {
            return NONE;
        }
        if (table.size() == 12) {
            return -2;
        }
        int[] result = draw(horse, plan, seed);
        table.add(new int[] {rider, horse, result[0], result[1]});
        return result[0];
    }

    int look(int horse, int plan, int seed) {
        return horseIs(horse) && planIs(plan) ? draw(horse, plan, seed)[0] : NONE;
    }

    int told(int rider, int horse, int faults, int tenths) {
        List<int[]> was = new ArrayList<>(table);
        int answer = doTold(rider, horse, faults, tenths);
        if (answer >= 0) {
            remember(was);
        }
        return answer;
    }

    private int doTold(int rider, int horse, int faults, int tenths) {
        if (rider < 0 || rider > 5 || !horseIs(horse) || faults < 0 || faults > 99 || tenths < 0 || tenths > 9999) {
            return NONE;
        }
        if (table.size() == 12) {
            return -2;
        }
        table.add(new int[] {rider, horse, faults, tenths});
        return table.size();
    }

    int show() {
        String signs = takeText();
        int bad = signs.isEmpty() ? NONE : badSign(signs, ACT, ";", 99, 60);
        if (bad != NONE) {
            return -1 - bad;
        }
        List<int[]> was = new ArrayList<>(table);
        int done = 0;
        int stuck = 0;
        for (String act : signs.isEmpty() ? new String[0] : signs.split(";")) {
            if (!perform(act)) {
                stuck = 1;
                break;
            }
            done++;
        }
        if (done > 0) {
            remember(was);
        }
        row = new long[] {stuck, table.size()};
        return done;
    }

    private boolean perform(String act) {
        if (act.equals("x")) {
            return !table.isEmpty() && table.remove(table.size() - 1) != null;
        }
        int a = act.charAt(1) - '0';
        int b = act.charAt(2) - '0';
        if (act.charAt(0) == 'r') {
            return doRide(a, b, act.charAt(3) - '0', act.charAt(5) - '0') >= 0;
        }
        int plus = act.indexOf('+');
        return doTold(a, b, Integer.parseInt(act.substring(4, plus)), Integer.parseInt(act.substring(plus + 1))) >= 0;
    }

    int undo() {
        if (undos.isEmpty()) {
            return NONE;
        }
        table = undos.remove(undos.size() - 1);
        return undos.size();
    }

    /** Numbers of ROUNDS by places; sorting keeps the order of equal ones. */
    private static List<Integer> order(List<int[]> rounds) {
        List<Integer> order = new ArrayList<>();
        for (int i = 0; i < rounds.size(); i++) {
            order.add(i);
        }
        order.sort((a, b) -> {
            int[] x = rounds.get(a);
            int[] y = rounds.get(b);
            return x[2] != y[2] ? Integer.compare(x[2], y[2]) : Integer.compare(x[3], y[3]);
        });
        return order;
    }

    private int prize(int place) {
        return place <= 6 ? money[place - 1] : 0;
    }

    int round(int i, int what) {
        if (i < 0 || i >= table.size() || what < 0 || what > 5) {
            throw new NoSuchElementException();
        }
        int place = order(table).indexOf(i) + 1;
        return what < 4 ? table.get(i)[what] : what == 4 ? place : prize(place);
    }

    private static long[] asRow(List<Integer> list) {
        return list.stream().mapToLong(i -> i).toArray();
    }

    int table() {
        row = asRow(order(table));
        return (int) table.stream().filter(r -> r[2] == 0).count();
    }

    private int newPlace(int faults, int tenths) {
        List<int[]> more = new ArrayList<>(table);
        more.add(new int[] {0, 0, faults, tenths});
        return order(more).indexOf(table.size()) + 1;
    }

    int place(int faults, int tenths) {
        if (faults < 0 || faults > 99 || tenths < 0 || tenths > 9999) {
            return NONE;
        }
        row = new long[] {prize(newPlace(faults, tenths))};
        return newPlace(faults, tenths);
    }

    int beat(int place) {
        if (place < 1 || place > 12) {
            return NONE;
        }
        for (int t = 9999; t >= 0; t--) {
            if (newPlace(0, t) <= place) {
                row = new long[] {prize(newPlace(0, t))};
                return t;
            }
        }
        return -2;
    }

    int law(int n, int m) {
        if (n < 1 || n > 999 || m < 0 || m > 9) {
            return NONE;
        }
        List<int[]> other = new ArrayList<>();
        for (int[] r : table) {
            other.add(new int[] {r[0], r[1], Math.max(0, r[2] - late(r[3], 40)) + m * late(r[3], n), r[3]});
        }
        List<Integer> before = order(table);
        List<Integer> after = order(other);
        int moved = 0;
        for (int i = 0; i < table.size(); i++) {
            moved += before.indexOf(i) == after.indexOf(i) ? 0 : 1;
        }
        row = asRow(after);
        return moved;
    }

    // ---- money

    private int prizeOf(int plan, int faults) {
        int t = planTenths(plan);
        return prize(newPlace(faults + late(t, 40), t));
    }

    private int meanOf(int horse, int plan) {
        int c = clear(horse, plan);
        return c * prizeOf(plan, 0) + (10000 - c) * prizeOf(plan, 4);
    }

    int mean(int horse, int plan) {
        if (!horseIs(horse) || !planIs(plan)) {
            return NONE;
        }
        row = new long[] {prizeOf(plan, 0), prizeOf(plan, 4)};
        return meanOf(horse, plan);
    }

    private int bestPlan(int horse) {
        int best = 0;
        for (int p = 1; p < plans.size(); p++) {
            best = meanOf(horse, p) > meanOf(horse, best) ? p : best;
        }
        return best;
    }

    int last(int horse) {
        if (!horseIs(horse)) {
            return NONE;
        }
        if (plans.isEmpty()) {
            return -2;
        }
        row = new long[] {meanOf(horse, bestPlan(horse))};
        return bestPlan(horse);
    }

    int buy() {
        if (horses.isEmpty() || plans.isEmpty()) {
            return -2;
        }
        int best = 0;
        for (int h = 1; h < horses.size(); h++) {
            best = meanOf(h, bestPlan(h)) > meanOf(best, bestPlan(best)) ? h : best;
        }
        int second = NONE;
        for (int h = 0; h < horses.size(); h++) {
            second = h == best ? second : Math.max(second, meanOf(h, bestPlan(h)));
        }
        row = new long[] {meanOf(best, bestPlan(best)), bestPlan(best), second};
        return best;
    }

    private static final BigInteger TEN_THOUSAND = BigInteger.valueOf(10000);

    /** What each wins, times 10000 for each who is still to come; behind these the PLAN of who comes next. */
    private BigInteger[] play(int[] who, int next, List<int[]> rounds) {
        BigInteger[] best = null;
        if (next == who.length) {
            best = new BigInteger[who.length + 1];
            for (int k = 0; k < who.length; k++) {
                best[k] = BigInteger.valueOf(prize(order(rounds).indexOf(table.size() + k) + 1));
            }
            return best;
        }
        for (int plan = 0; plan < plans.size(); plan++) {
            int t = planTenths(plan);
            BigInteger c = BigInteger.valueOf(clear(who[next], plan));
            List<int[]> good = new ArrayList<>(rounds);
            good.add(new int[] {0, 0, late(t, 40), t});
            List<int[]> bad = new ArrayList<>(rounds);
            bad.add(new int[] {0, 0, 4 + late(t, 40), t});
            BigInteger[] a = play(who, next + 1, good);
            BigInteger[] b = play(who, next + 1, bad);
            BigInteger[] sum = new BigInteger[who.length + 1];
            for (int k = 0; k < who.length; k++) {
                sum[k] = a[k].multiply(c).add(b[k].multiply(TEN_THOUSAND.subtract(c)));
            }
            sum[who.length] = BigInteger.valueOf(plan);
            if (best == null || sum[next].compareTo(best[next]) > 0) {
                best = sum;
            }
        }
        return best;
    }

    private static long[] fraction(BigInteger upper, BigInteger lower) {
        BigInteger g = upper.gcd(lower);
        return new long[] {upper.divide(g).longValueExact(), lower.divide(g).longValueExact()};
    }

    private int badPlayers(String signs, int least, int most) {
        for (int p = 0; p < signs.length(); p++) {
            if (p >= most || signs.charAt(p) < '0' || signs.charAt(p) >= '0' + horses.size()) {
                return p;
            }
        }
        return signs.length() < least ? signs.length() : NONE;
    }

    private static int[] players(String signs) {
        return signs.chars().map(c -> c - '0').toArray();
    }

    int game() {
        String signs = takeText();
        if (plans.isEmpty()) {
            return -100;
        }
        int bad = badPlayers(signs, 1, 3);
        if (bad != NONE) {
            return -1 - bad;
        }
        int n = signs.length();
        BigInteger[] won = play(players(signs), 0, table);
        row = new long[2 * n];
        for (int k = 0; k < n; k++) {
            System.arraycopy(fraction(won[k], TEN_THOUSAND.pow(n)), 0, row, 2 * k, 2);
        }
        return won[n].intValue();
    }

    int lot() {
        String signs = takeText();
        if (plans.isEmpty()) {
            return -100;
        }
        int bad = badPlayers(signs, 2, 3);
        if (bad != NONE) {
            return -1 - bad;
        }
        int n = signs.length();
        int best = NONE;
        BigInteger most = null;
        for (int at = 0; at < n; at++) {
            String others = signs.substring(1);
            String order = others.substring(0, at) + signs.charAt(0) + others.substring(at);
            BigInteger won = play(players(order), 0, table)[at];
            if (most == null || won.compareTo(most) > 0) {
                most = won;
                best = at;
            }
        }
        row = fraction(most, TEN_THOUSAND.pow(n));
        return best;
    }

    int share(int n) {
        String signs = takeText();
        if (plans.isEmpty()) {
            return -100;
        }
        if (n < 1 || n > 5) {
            return -200;
        }
        int bad = badPlayers(signs, 2, 2);
        if (bad != NONE) {
            return -1 - bad;
        }
        BigInteger[] won = play(players(signs), 0, table);
        BigInteger lower = TEN_THOUSAND.pow(2);
        long[] one = fraction(won[0], lower);
        long[] two = fraction(won[1], lower);
        int both = prize(n) + prize(n + 1);
        row = new long[] {both, one[0], one[1], two[0], two[1]};
        BigInteger half = BigInteger.valueOf(both).multiply(lower);
        boolean gladly = half.compareTo(won[0].shiftLeft(1)) >= 0 && half.compareTo(won[1].shiftLeft(1)) >= 0;
        return gladly ? 1 : 0;
    }

    // ---- builders, rider or horse, wind

    private int throughBits(int plan, int v) {
        int bits = 0;
        for (int h = 0; h < horses.size(); h++) {
            bits += clear(h, plan) >= v ? 1 << h : 0;
        }
        return bits;
    }

    int through(int plan, int v) {
        if (!planIs(plan) || v < 0 || v > 10000) {
            return NONE;
        }
        row = new long[] {Integer.bitCount(throughBits(plan, v))};
        return throughBits(plan, v);
    }

    int built(int plan, int v, int n) {
        if (!planIs(plan) || v < 0 || v > 10000 || n < 0 || n > 6) {
            return -2;
        }
        int now = Integer.bitCount(throughBits(plan, v));
        long[] best = {NONE, NONE, now};
        for (int f = 0; f < fences.size(); f++) {
            int was = fences.get(f)[1];
            for (int h = 0; h < 10; h++) {
                fences.get(f)[1] = h;
                int many = Integer.bitCount(throughBits(plan, v));
                if (Math.abs(many - n) < Math.abs(best[2] - n)) {
                    best = new long[] {f, h, many};
                }
            }
            fences.get(f)[1] = was;
        }
        row = new long[] {best[1], best[2]};
        return (int) best[0];
    }

    int fair(int fence) {
        if (!fenceIs(fence)) {
            return NONE;
        }
        long[] best = null;
        for (int feet = 10; feet < 100; feet++) {
            long[] that = {0, feet, 0};
            for (int h = 0; h < horses.size(); h++) {
                that[0] += lean(h, feet);
                that[2] = Math.max(that[2], lean(h, feet));
            }
            if (best == null || that[0] < best[0]) {
                best = that;
            }
        }
        row = new long[] {best[0], best[2]};
        return (int) best[1];
    }

    int parts() {
        int least = Integer.MAX_VALUE;
        int rounds = 0;
        for (int[] r : table) {
            rounds += r[0] < 3 && r[1] < 3 ? 1 : 0;
        }
        for (int way = 0; way < 15625; way++) {
            int[] part = new int[6];
            for (int i = 5, w = way; i >= 0; i--, w /= 5) {
                part[i] = w % 5;
            }
            int off = 0;
            for (int[] r : table) {
                off += r[0] < 3 && r[1] < 3 ? Math.abs(r[2] - part[r[0]] - part[3 + r[1]]) : 0;
            }
            if (off < least) {
                least = off;
                row = new long[] {part[0], part[1], part[2], part[3], part[4], part[5], rounds};
            }
        }
        return least;
    }

    int riders(int one, int other) {
        if (one < 0 || one > 5 || other < 0 || other > 5 || one == other) {
            return NONE;
        }
        BigInteger upper = BigInteger.ZERO;
        BigInteger lower = BigInteger.ONE;
        int both = 0;
        for (int h = 0; h < horses.size(); h++) {
            int[] sum = new int[2];
            int[] number = new int[2];
            for (int[] r : table) {
                if (r[1] == h && (r[0] == one || r[0] == other)) {
                    sum[r[0] == one ? 0 : 1] += r[2];
                    number[r[0] == one ? 0 : 1]++;
                }
            }
            if (number[0] > 0 && number[1] > 0) {
                both++;
                BigInteger below = BigInteger.valueOf((long) number[0] * number[1]);
                BigInteger above = BigInteger.valueOf((long) sum[0] * number[1] - (long) sum[1] * number[0]);
                upper = upper.multiply(below).add(above.multiply(lower));
                lower = lower.multiply(below);
            }
        }
        if (both == 0) {
            return -2;
        }
        row = fraction(upper, lower.multiply(BigInteger.valueOf(both)));
        return both;
    }

    int wind(int fence, int n, int m, int w) {
        if (!fenceIs(fence) || n < 0 || m < 0 || m > 6 || n > m || m > horses.size() || w < 0 || w > 100 || plans.isEmpty()) {
            return NONE;
        }
        BigInteger lower = BigInteger.valueOf(100).pow(m);
        BigInteger still = likely(fence, n, m, 0);
        BigInteger windy = likely(fence, n, m, w);
        long[] a = fraction(still, lower);
        long[] b = fraction(windy, lower);
        row = new long[] {a[0], a[1], b[0], b[1]};
        return windy.compareTo(still) > 0 ? 1 : 0;
    }

    /** Over all sets of so many who had it down. */
    private BigInteger likely(int fence, int n, int m, int w) {
        BigInteger sum = BigInteger.ZERO;
        for (int set = 0; set < 1 << m; set++) {
            BigInteger product = BigInteger.ONE;
            for (int h = 0; h < m; h++) {
                int odds = Math.min(100, pole(h, fence, letter(0, fence)) + w);
                product = product.multiply(BigInteger.valueOf((set >> h & 1) == 1 ? odds : 100 - odds));
            }
            sum = Integer.bitCount(set) == n ? sum.add(product) : sum;
        }
        return sum;
    }

    // ---- kept

    boolean keep(int i) {
        if (i < 0 || i > 1) {
            return false;
        }
        kept.set(i, new ArrayList<>(table));
        return true;
    }

    boolean again(int i) {
        if (i < 0 || i > 1 || kept.get(i) == null) {
            return false;
        }
        table = new ArrayList<>(kept.get(i));
        undos.clear();
        return true;
    }

    int count(int what) {
        int[] counts = {fences.size(), horses.size(), plans.size(), table.size(), allowed, undos.size(), row.length,
            text.length(), Arrays.stream(money).sum()};
        return what < 0 || what > 8 ? NONE : counts[what];
    }

    long row(int i) {
        if (i < 0 || i >= row.length) {
            throw new NoSuchElementException();
        }
        return row[i];
    }
}
