import java.util.Arrays;
import java.util.NoSuchElementException;

/** Clear rounds against the clock, as ../shared/DOC.md promises them; words in capitals are the document's. */
public final class FourAPole {
    public static final int NONE = -1;

    private static final int NOTHING_SUCH = -2;
    private static final int MISSING = -3;
    private static final int ASKED_FIRST = -100;
    private static final int ASKED_THEN = -200;

    private static final int MOST_FENCES = 8;
    private static final int MOST_HORSES = 6;
    private static final int MOST_PLANS = 6;
    private static final int MOST_ROUNDS = 12;
    private static final int RIDERS = 6;
    private static final int LETTERS = 8;
    private static final int KINDS = 4;
    private static final int MOST_HEIGHT = 9;
    private static final int LEAST_FEET = 10;
    private static final int MOST_FEET = 99;
    private static final int MOST_TENTHS = 9999;
    private static final int MOST_FAULTS = 99;
    private static final int CERTAIN = 10000;
    private static final int FAULTS_A_POLE = 4;
    private static final int REFUSAL_TENTHS = 60;
    private static final int TENTHS_A_FAULT = 40;
    private static final int UNDONE = 12;
    private static final int KEPT = 2;
    private static final int WHOLE_TEXT = 80;
    private static final int LINES_TEXT = 76;

    private final Signs text = new Signs();
    private final Row numbers = new Row();
    private final Course course = new Course();
    private final Table rounds = new Table();
    private final Shelf history = new Shelf(UNDONE + 1);
    private final Shelf kept = new Shelf(KEPT);
    private final Drawn drawn = new Drawn();
    private final Letters letters = new Letters();
    private final Game play = new Game();
    private final Act act = new Act();
    private final Parts blame = new Parts();
    private final long[] chances = new long[MOST_FENCES + 1];
    private final int[] newFaults = new int[MOST_ROUNDS];

    public FourAPole() {
    }

    // ---- rings, horses, plans

    public int sign(int v) {
        return text.add(v);
    }

    public boolean end(int n) {
        return text.cut(n);
    }

    public int ring() {
        int answer = course.readRing(text);
        text.clear();
        if (answer > 0) {
            rounds.size = 0;
            history.forget();
            kept.forget();
        }
        return answer;
    }

    public int horses() {
        int answer = course.readHorses(text);
        text.clear();
        return answer;
    }

    public int plan() {
        int answer = course.readPlan(text);
        text.clear();
        return answer;
    }

    public int rule() {
        int answer = course.rule.readRule(text);
        text.clear();
        return answer;
    }

    public int prizes() {
        int answer = rounds.readMoney(text);
        text.clear();
        return answer;
    }

    public int fence(int fence, int what) throws NoSuchElementException {
        if (!course.hasFence(fence) || what < 0 || what > 2) {
            throw new NoSuchElementException();
        }
        if (what == 0) {
            return course.kinds[fence];
        }
        return what == 1 ? course.heights[fence] : course.feet[fence];
    }

    public int horse(int horse, int what) throws NoSuchElementException {
        if (!course.hasHorse(horse) || what < 0 || what >= Course.HORSE_DIGITS) {
            throw new NoSuchElementException();
        }
        return course.ofHorse(horse, what);
    }

    public int raise(int fence, int v) {
        if (!course.hasFence(fence) || v < 0 || v > MOST_HEIGHT) {
            return NONE;
        }
        int was = course.heights[fence];
        course.heights[fence] = v;
        return was;
    }

    public int move(int fence, int v) {
        if (!course.hasFence(fence) || v < LEAST_FEET || v > MOST_FEET) {
            return NONE;
        }
        int was = course.feet[fence];
        course.feet[fence] = v;
        return was;
    }

    public int allow(int v) {
        if (v < 0 || v > MOST_TENTHS) {
            return NONE;
        }
        int was = course.allowed;
        course.allowed = v;
        return was;
    }

    public int sheet(int kind, int n, int f, int step) {
        if (kind < 0 || kind > 3 || n > MOST_FENCES) {
            return NONE;
        }
        boolean missing = kind == 3;
        if (!missing && n < 0) {
            return NOTHING_SUCH;
        }
        int entries = missing ? 0 : n;
        int sum = 0;
        for (int fence = 0; fence < course.fences; fence++) {
            int entry = fence < entries ? sheetEntry(kind, f + fence * step) : 0;
            course.heights[fence] = entry;
            sum += entry;
        }
        return missing ? MISSING : sum;
    }

    private static int sheetEntry(int kind, int entry) {
        int height = entry;
        if (kind == 0) {
            height = (byte) entry;
        } else if (kind == 1) {
            height = (short) entry;
        }
        return Math.max(0, Math.min(MOST_HEIGHT, height));
    }

    // ---- at a fence

    public int jump(int horse, int fence, int letter) {
        if (!course.hasHorse(horse) || !course.hasFence(fence) || letter < 0 || letter >= LETTERS) {
            return NONE;
        }
        numbers.start();
        numbers.put(course.refusalOdds(horse, fence));
        numbers.put(course.fenceTenths(fence, letter));
        numbers.put(course.leanAt(horse, fence));
        return course.poleOdds(horse, fence, letter);
    }

    public int strides(int horse, int fence) {
        if (!course.hasHorse(horse) || !course.hasFence(fence)) {
            return NONE;
        }
        int stride = course.ofHorse(horse, Course.STRIDE);
        int feet = course.feet[fence];
        int fitting = stride > 0 ? feet / stride : 0;
        int left = feet - fitting * stride;
        int lean = course.leanAt(horse, fence);
        int more = lean < left ? 1 : 0;
        numbers.start();
        numbers.put(lean);
        numbers.put(more);
        return fitting + more;
    }

    public int calm(int horse, int fence) {
        if (!course.hasHorse(horse) || !course.hasFence(fence)) {
            return NONE;
        }
        int refusal = course.refusalOdds(horse, fence);
        int best = 0;
        int bestOdds = 0;
        int bestTenths = 0;
        for (int letter = 0; letter < LETTERS; letter++) {
            int odds = course.poleOdds(horse, fence, letter) + refusal;
            int tenths = course.fenceTenths(fence, letter);
            if (letter == 0 || odds < bestOdds || odds == bestOdds && tenths < bestTenths) {
                best = letter;
                bestOdds = odds;
                bestTenths = tenths;
            }
        }
        numbers.start();
        numbers.put(bestOdds);
        numbers.put(bestTenths);
        return best;
    }

    // ---- plans

    public int fear(int horse, int plan) {
        if (!course.hasHorse(horse) || !course.hasPlan(plan)) {
            return NONE;
        }
        int fear = 0;
        for (int fence = 0; fence < course.fences; fence++) {
            fear += course.poleOdds(horse, fence, course.letterAt(plan, fence)) + course.refusalOdds(horse, fence);
        }
        numbers.start();
        numbers.put(course.planTenths(plan));
        numbers.put(course.clearOf(horse, plan));
        return fear;
    }

    public int falls(int horse, int plan) {
        if (!course.hasHorse(horse) || !course.hasPlan(plan)) {
            return NONE;
        }
        if (course.fences == 0) {
            return NOTHING_SUCH;
        }
        int best = 0;
        int most = NONE;
        for (int fence = 0; fence < course.fences; fence++) {
            int odds = course.poleOdds(horse, fence, course.letterAt(plan, fence));
            if (odds > most) {
                best = fence;
                most = odds;
            }
        }
        numbers.start();
        numbers.put(most);
        return best;
    }

    public int poles(int horse, int plan, int n) {
        if (!course.hasHorse(horse) || !course.hasPlan(plan) || n < 0 || n > MOST_FENCES) {
            return NONE;
        }
        Arrays.fill(chances, 0);
        chances[0] = CERTAIN;
        for (int fence = 0; fence < course.fences; fence++) {
            int odds = course.poleOdds(horse, fence, course.letterAt(plan, fence));
            for (int j = MOST_FENCES; j > 0; j--) {
                chances[j] = chances[j] * (100 - odds) / 100 + chances[j - 1] * odds / 100;
            }
            chances[0] = chances[0] * (100 - odds) / 100;
        }
        return (int) chances[n];
    }

    public int cuts(int horse, int plan) {
        if (!course.hasHorse(horse) || !course.hasPlan(plan)) {
            return NONE;
        }
        int best = NONE;
        int leastMore = 0;
        int mostSaved = 0;
        for (int fence = 0; fence < course.fences; fence++) {
            int letter = course.letterAt(plan, fence);
            if (Course.isCut(letter)) {
                continue;
            }
            int cut = letter + Course.PACES;
            int more = course.poleOdds(horse, fence, cut) - course.poleOdds(horse, fence, letter);
            int saved = course.fenceTenths(fence, letter) - course.fenceTenths(fence, cut);
            if (best == NONE || more < leastMore || more == leastMore && saved > mostSaved) {
                best = fence;
                leastMore = more;
                mostSaved = saved;
            }
        }
        if (best == NONE) {
            return NOTHING_SUCH;
        }
        numbers.start();
        numbers.put(leastMore);
        numbers.put(mostSaved);
        return best;
    }

    public int curve(int horse, int v) {
        if (!course.hasHorse(horse) || v < 0 || v > MOST_TENTHS) {
            return NONE;
        }
        return leastFear(horse, v);
    }

    public int quick(int horse, int v) {
        if (!course.hasHorse(horse) || v < 0 || v > MOST_TENTHS) {
            return NONE;
        }
        letters.lay(course, horse);
        int tenths = letters.fewestTenths(v);
        if (tenths == NONE) {
            return NOTHING_SUCH;
        }
        numbers.start();
        numbers.put(letters.fearWith(tenths));
        letters.tell(numbers, tenths);
        return tenths;
    }

    public int sure(int horse) {
        if (!course.hasHorse(horse)) {
            return NONE;
        }
        return leastFear(horse, course.allowed);
    }

    private int leastFear(int horse, int most) {
        letters.lay(course, horse);
        int tenths = letters.calmestTenths(most);
        if (tenths == NONE) {
            return NOTHING_SUCH;
        }
        numbers.start();
        numbers.put(tenths);
        letters.tell(numbers, tenths);
        return letters.fearWith(tenths);
    }

    // ---- rounds

    public int ride(int rider, int horse, int plan, int seed) {
        history.mark(rounds);
        int answer = addRide(rider, horse, plan, seed);
        if (answer >= 0) {
            history.commit();
            tellDrawn();
        }
        return answer;
    }

    public int look(int horse, int plan, int seed) {
        if (!course.hasHorse(horse) || !course.hasPlan(plan)) {
            return NONE;
        }
        drawn.draw(course, horse, plan, seed);
        tellDrawn();
        return drawn.faults;
    }

    public int told(int rider, int horse, int faults, int tenths) {
        history.mark(rounds);
        int answer = addTold(rider, horse, faults, tenths);
        if (answer >= 0) {
            history.commit();
        }
        return answer;
    }

    private int addRide(int rider, int horse, int plan, int seed) {
        if (!isRider(rider) || !course.hasHorse(horse) || !course.hasPlan(plan)) {
            return NONE;
        }
        if (rounds.isFull()) {
            return NOTHING_SUCH;
        }
        drawn.draw(course, horse, plan, seed);
        rounds.add(rider, horse, drawn.faults, drawn.tenths);
        return drawn.faults;
    }

    private int addTold(int rider, int horse, int faults, int tenths) {
        if (!isRider(rider) || !course.hasHorse(horse) || !isResult(faults, tenths)) {
            return NONE;
        }
        if (rounds.isFull()) {
            return NOTHING_SUCH;
        }
        rounds.add(rider, horse, faults, tenths);
        return rounds.size;
    }

    private void tellDrawn() {
        numbers.start();
        numbers.put(drawn.tenths);
        numbers.put(drawn.refused);
        numbers.put(drawn.fallen);
        numbers.put(drawn.state);
    }

    private static boolean isRider(int rider) {
        return rider >= 0 && rider < RIDERS;
    }

    private static boolean isResult(int faults, int tenths) {
        return faults >= 0 && faults <= MOST_FAULTS && tenths >= 0 && tenths <= MOST_TENTHS;
    }

    public int show() {
        int fault = act.check(text);
        if (fault < 0) {
            text.clear();
            return fault;
        }
        history.mark(rounds);
        text.open(Act.MOST_SIGNS);
        int done = 0;
        boolean stuck = false;
        for (int i = 0; i < Act.MOST_SIGNS && !stuck && !text.isDone(); i++) {
            act.read(text);
            text.take(';');
            stuck = !perform();
            done += stuck ? 0 : 1;
        }
        text.clear();
        if (done > 0) {
            history.commit();
        }
        numbers.start();
        numbers.put(stuck ? 1 : 0);
        numbers.put(rounds.size);
        return done;
    }

    private boolean perform() {
        if (act.kind == 'r') {
            return addRide(act.rider, act.horse, act.third, act.fourth) >= 0;
        }
        if (act.kind == 't') {
            return addTold(act.rider, act.horse, act.third, act.fourth) >= 0;
        }
        return rounds.strike();
    }

    public int undo() {
        return history.back(rounds);
    }

    public int round(int i, int what) throws NoSuchElementException {
        if (i < 0 || i >= rounds.size || what < 0 || what > 5) {
            throw new NoSuchElementException();
        }
        switch (what) {
            case 0:
                return rounds.riders[i];
            case 1:
                return rounds.horses[i];
            case 2:
                return rounds.faults[i];
            case 3:
                return rounds.tenths[i];
            case 4:
                return rounds.placeOf(i, rounds.faults);
            default:
                return rounds.moneyAt(rounds.placeOf(i, rounds.faults));
        }
    }

    public int table() {
        rounds.tellOrder(numbers, rounds.faults);
        int clear = 0;
        for (int i = 0; i < rounds.size; i++) {
            clear += rounds.faults[i] == 0 ? 1 : 0;
        }
        return clear;
    }

    public int place(int faults, int tenths) {
        if (!isResult(faults, tenths)) {
            return NONE;
        }
        int place = rounds.placeFor(faults, tenths);
        numbers.start();
        numbers.put(rounds.moneyAt(place));
        return place;
    }

    public int beat(int place) {
        if (place < 1 || place > MOST_ROUNDS) {
            return NONE;
        }
        int best = NONE;
        if (rounds.placeFor(0, MOST_TENTHS) <= place) {
            best = MOST_TENTHS;
        }
        // Below the last instant, the place only gets worse just where a clear ROUND of the TABLE stands.
        for (int i = 0; i < rounds.size && best != MOST_TENTHS; i++) {
            int tenths = rounds.tenths[i] - 1;
            if (rounds.faults[i] == 0 && tenths > best && rounds.placeFor(0, tenths) <= place) {
                best = tenths;
            }
        }
        if (best == NONE) {
            return NOTHING_SUCH;
        }
        numbers.start();
        numbers.put(rounds.moneyAt(rounds.placeFor(0, best)));
        return best;
    }

    public int law(int n, int m) {
        if (n < 1 || n > 999 || m < 0 || m > 9) {
            return NONE;
        }
        for (int i = 0; i < rounds.size; i++) {
            int late = begun(rounds.tenths[i], course.allowed, TENTHS_A_FAULT);
            int others = Math.max(0, rounds.faults[i] - late);
            newFaults[i] = others + m * begun(rounds.tenths[i], course.allowed, n);
        }
        int moved = 0;
        for (int i = 0; i < rounds.size; i++) {
            moved += rounds.placeOf(i, newFaults) != rounds.placeOf(i, rounds.faults) ? 1 : 0;
        }
        rounds.tellOrder(numbers, newFaults);
        return moved;
    }

    /** How many spans of a length are begun above what is allowed. */
    private static int begun(int tenths, int allowed, int span) {
        if (tenths <= allowed || span <= 0) {
            return 0;
        }
        return (tenths - allowed + span - 1) / span;
    }

    // ---- money

    public int mean(int horse, int plan) {
        if (!course.hasHorse(horse) || !course.hasPlan(plan)) {
            return NONE;
        }
        numbers.start();
        numbers.put(thoughtMoney(plan, 0));
        numbers.put(thoughtMoney(plan, FAULTS_A_POLE));
        return meanOf(horse, plan);
    }

    public int last(int horse) {
        if (!course.hasHorse(horse)) {
            return NONE;
        }
        if (course.planCount == 0) {
            return NOTHING_SUCH;
        }
        int plan = bestPlan(horse);
        numbers.start();
        numbers.put(meanOf(horse, plan));
        return plan;
    }

    public int buy() {
        if (course.horseCount == 0 || course.planCount == 0) {
            return NOTHING_SUCH;
        }
        int best = NONE;
        int most = NONE;
        int second = NONE;
        for (int horse = 0; horse < course.horseCount; horse++) {
            int mean = meanOf(horse, bestPlan(horse));
            if (mean > most) {
                second = most;
                most = mean;
                best = horse;
            } else if (mean > second) {
                second = mean;
            }
        }
        numbers.start();
        numbers.put(most);
        numbers.put(bestPlan(best));
        numbers.put(second);
        return best;
    }

    private int bestPlan(int horse) {
        int best = 0;
        int most = NONE;
        for (int plan = 0; plan < course.planCount; plan++) {
            int mean = meanOf(horse, plan);
            if (mean > most) {
                best = plan;
                most = mean;
            }
        }
        return best;
    }

    private int meanOf(int horse, int plan) {
        int clear = course.clearOf(horse, plan);
        return clear * thoughtMoney(plan, 0) + (CERTAIN - clear) * thoughtMoney(plan, FAULTS_A_POLE);
    }

    private int thoughtMoney(int plan, int poleFaults) {
        int tenths = course.planTenths(plan);
        int late = begun(tenths, course.allowed, TENTHS_A_FAULT);
        return rounds.moneyAt(rounds.placeFor(poleFaults + late, tenths));
    }

    public int game() {
        int fault = readPlayers(1, 3);
        if (fault < 0) {
            return fault;
        }
        play.begin(course, rounds);
        play.start(course, rounds, 0);
        numbers.start();
        for (int player = 0; player < play.players; player++) {
            numbers.putFraction(play.won(player), play.scale());
        }
        return play.firstPlan;
    }

    public int lot() {
        int fault = readPlayers(2, 3);
        if (fault < 0) {
            return fault;
        }
        play.begin(course, rounds);
        int best = 0;
        long most = NONE;
        for (int start = 0; start < play.players; start++) {
            play.start(course, rounds, start);
            if (play.won(start) > most) {
                best = start;
                most = play.won(start);
            }
        }
        numbers.start();
        numbers.putFraction(most, play.scale());
        return best;
    }

    public int share(int n) {
        if (course.planCount > 0 && (n < 1 || n > 5)) {
            text.clear();
            return ASKED_THEN;
        }
        int fault = readPlayers(2, 2);
        if (fault < 0) {
            return fault;
        }
        play.begin(course, rounds);
        play.start(course, rounds, 0);
        int twice = rounds.moneyAt(n) + rounds.moneyAt(n + 1);
        numbers.start();
        numbers.put(twice);
        boolean gladly = true;
        for (int player = 0; player < play.players; player++) {
            numbers.putFraction(play.won(player), play.scale());
            gladly = gladly && twice * play.scale() >= 2 * play.won(player);
        }
        return gladly ? 1 : 0;
    }

    private int readPlayers(int least, int most) {
        int answer = course.planCount == 0 ? ASKED_FIRST : play.readPlayers(text, course.horseCount, least, most);
        text.clear();
        return answer;
    }

    // ---- builders

    public int through(int plan, int v) {
        if (!course.hasPlan(plan) || v < 0 || v > CERTAIN) {
            return NONE;
        }
        int bits = bitsThrough(plan, v);
        numbers.start();
        numbers.put(Integer.bitCount(bits));
        return bits;
    }

    private int bitsThrough(int plan, int v) {
        int bits = 0;
        for (int horse = 0; horse < course.horseCount; horse++) {
            if (course.clearOf(horse, plan) >= v) {
                bits |= 1 << horse;
            }
        }
        return bits;
    }

    public int built(int plan, int v, int n) {
        if (!course.hasPlan(plan) || v < 0 || v > CERTAIN || n < 0 || n > MOST_HORSES) {
            return NOTHING_SUCH;
        }
        course.countThrough(plan, v);
        int best = NONE;
        int bestCount = Integer.bitCount(bitsThrough(plan, v));
        for (int i = 0; i < course.fences * Course.HEIGHTS; i++) {
            if (Math.abs(course.counts[i] - n) < Math.abs(bestCount - n)) {
                best = i;
                bestCount = course.counts[i];
            }
        }
        numbers.start();
        numbers.put(best == NONE ? NONE : best % Course.HEIGHTS);
        numbers.put(bestCount);
        return best == NONE ? NONE : best / Course.HEIGHTS;
    }

    public int fair(int fence) {
        if (!course.hasFence(fence)) {
            return NONE;
        }
        int best = NONE;
        int least = 0;
        int leastMost = 0;
        for (int feet = LEAST_FEET; feet <= MOST_FEET; feet++) {
            int sum = 0;
            int most = 0;
            for (int horse = 0; horse < course.horseCount; horse++) {
                int lean = Course.lean(feet, course.ofHorse(horse, Course.STRIDE));
                sum += lean;
                most = Math.max(most, lean);
            }
            if (best == NONE || sum < least) {
                best = feet;
                least = sum;
                leastMost = most;
            }
        }
        numbers.start();
        numbers.put(least);
        numbers.put(leastMost);
        return best;
    }

    // ---- rider or horse

    public int parts() {
        return blame.explain(rounds, numbers);
    }

    public int riders(int one, int other) {
        if (!isRider(one) || !isRider(other) || one == other) {
            return NONE;
        }
        long sum = 0;
        int both = 0;
        for (int horse = 0; horse < course.horseCount; horse++) {
            long mean = rounds.scaledMean(one, horse);
            long otherMean = rounds.scaledMean(other, horse);
            if (mean != NONE && otherMean != NONE) {
                sum += mean - otherMean;
                both++;
            }
        }
        if (both == 0) {
            return NOTHING_SUCH;
        }
        numbers.start();
        numbers.putFraction(sum, (long) both * Table.MEAN_SCALE);
        return both;
    }

    // ---- wind

    public int wind(int fence, int n, int m, int w) {
        if (!course.hasFence(fence) || n < 0 || m < n || m > course.horseCount) {
            return NONE;
        }
        if (w < 0 || w > 100 || course.planCount == 0) {
            return NONE;
        }
        long scale = 1;
        for (int horse = 0; horse < m; horse++) {
            scale *= 100;
        }
        long still = justFall(fence, n, m, 0);
        long windy = justFall(fence, n, m, w);
        numbers.start();
        numbers.putFraction(still, scale);
        numbers.putFraction(windy, scale);
        return windy > still ? 1 : 0;
    }

    private long justFall(int fence, int n, int m, int more) {
        Arrays.fill(chances, 0);
        chances[0] = 1;
        for (int horse = 0; horse < m; horse++) {
            int odds = Math.min(100, course.poleOdds(horse, fence, course.letterAt(0, fence)) + more);
            for (int j = MOST_HORSES; j > 0; j--) {
                chances[j] = chances[j] * (100 - odds) + chances[j - 1] * odds;
            }
            chances[0] = chances[0] * (100 - odds);
        }
        return n >= 0 && n <= MOST_HORSES ? chances[n] : 0;
    }

    // ---- kept

    public boolean keep(int i) {
        return kept.store(i, rounds);
    }

    public boolean again(int i) {
        if (!kept.load(i, rounds)) {
            return false;
        }
        history.forget();
        return true;
    }

    public int count(int what) {
        switch (what) {
            case 0:
                return course.fences;
            case 1:
                return course.horseCount;
            case 2:
                return course.planCount;
            case 3:
                return rounds.size;
            case 4:
                return course.allowed;
            case 5:
                return history.count;
            case 6:
                return numbers.size;
            case 7:
                return text.size;
            case 8:
                return rounds.moneyInAll();
            default:
                return NONE;
        }
    }

    public long row(int i) throws NoSuchElementException {
        if (i < 0 || i >= numbers.size) {
            throw new NoSuchElementException();
        }
        return numbers.told[i];
    }

    /** THE TEXT, with a finger that reads along it: where reading fails, the finger is at the sign that can't stand. */
    private static final class Signs {
        private final char[] signs = new char[WHOLE_TEXT];
        private int size;
        private int limit;
        private int at;

        int add(int v) {
            if (size > WHOLE_TEXT - 4) {
                return NONE;
            }
            for (int shift = 24; shift >= 0; shift -= 8) {
                signs[size] = (char) (v >>> shift & 255);
                size++;
            }
            return size;
        }

        boolean cut(int n) {
            if (n < 0 || n > size) {
                return false;
            }
            size = n;
            return true;
        }

        void clear() {
            size = 0;
        }

        void open(int most) {
            at = 0;
            limit = Math.min(size, most);
        }

        /** Signs beyond the limit are not read, yet they keep a text from being done. */
        boolean isDone() {
            return at == size;
        }

        int fault() {
            return -1 - at;
        }

        boolean take(char sign) {
            if (at >= limit || signs[at] != sign) {
                return false;
            }
            at++;
            return true;
        }

        int oneOf(String choices) {
            int found = at < limit ? choices.indexOf(signs[at]) : NONE;
            if (found >= 0) {
                at++;
            }
            return found;
        }

        int digit(int least, int most) {
            if (at >= limit || signs[at] - '0' < least || signs[at] - '0' > most) {
                return NONE;
            }
            at++;
            return signs[at - 1] - '0';
        }

        int number(int mostDigits) {
            int value = digit(0, 9);
            for (int i = 1; i < mostDigits && value != NONE; i++) {
                int next = digit(0, 9);
                if (next == NONE) {
                    return value;
                }
                value = value * 10 + next;
            }
            return value;
        }
    }

    /** THE ROW. */
    private static final class Row {
        private static final int MOST_STEPS = 200;

        private final long[] told = new long[MOST_ROUNDS];
        private int size;

        void start() {
            size = 0;
        }

        void put(long number) {
            if (size < MOST_ROUNDS) {
                told[size] = number;
                size++;
            }
        }

        void putFraction(long upper, long lower) {
            long common = common(Math.abs(upper), lower);
            put(common > 0 ? upper / common : upper);
            put(common > 0 ? lower / common : lower);
        }

        private static long common(long one, long other) {
            long a = one;
            long b = other;
            for (int i = 0; i < MOST_STEPS && b != 0; i++) {
                long rest = a % b;
                a = b;
                b = rest;
            }
            return a;
        }
    }

    /** THE RULE, as codes in which what is joined stands ahead of what joins it. */
    private static final class Rule {
        private static final int MOST_SIGNS = 40;
        private static final int MOST_NESTED = 4;
        private static final int THINGS_LEVEL = 3;
        private static final String THINGS = "hscpxfky";
        private static final int MOST_THINGS = 8;
        private static final int THING = 1000;
        private static final int JOIN = 2000;
        private static final int JOINS_A_LEVEL = 3;
        private static final int LESS = 0;
        private static final int MORE = 1;
        private static final int LIKE = 2;
        private static final int PLUS = JOINS_A_LEVEL;
        private static final int MINUS = JOINS_A_LEVEL + 1;
        private static final int TIMES = 2 * JOINS_A_LEVEL;
        private static final int NEGATE = 3000;

        private final int[] codes = new int[MOST_SIGNS];
        private int size;
        private final int[] draft = new int[MOST_SIGNS];
        private int draftSize;
        private final int[] stack = new int[MOST_SIGNS];
        private final int[] things = new int[MOST_THINGS];

        int readRule(Signs text) {
            text.open(MOST_SIGNS);
            draftSize = 0;
            if (!text.isDone() && !(readLevel(text, 0, 0) && text.isDone())) {
                return text.fault();
            }
            System.arraycopy(draft, 0, codes, 0, draftSize);
            size = draftSize;
            return 0;
        }

        /** Levels bind the tighter the higher they are: comparisons, sums, products, things. */
        private boolean readLevel(Signs text, int level, int nested) {
            if (level >= THINGS_LEVEL) {
                return readThing(text, nested);
            }
            if (!readLevel(text, level + 1, nested)) {
                return false;
            }
            int most = level == 0 ? 1 : MOST_SIGNS;
            for (int i = 0; i < most; i++) {
                int sign = text.oneOf(signsOf(level));
                if (sign < 0) {
                    return true;
                }
                if (!readLevel(text, level + 1, nested)) {
                    return false;
                }
                emit(JOIN + level * JOINS_A_LEVEL + sign);
            }
            return true;
        }

        private static String signsOf(int level) {
            if (level == 0) {
                return "<>=";
            }
            return level == 1 ? "+-" : "*/";
        }

        private boolean readThing(Signs text, int nested) {
            boolean minus = false;
            for (int i = 0; i < MOST_SIGNS && text.take('-'); i++) {
                minus = !minus;
            }
            if (!readBareThing(text, nested)) {
                return false;
            }
            if (minus) {
                emit(NEGATE);
            }
            return true;
        }

        private boolean readBareThing(Signs text, int nested) {
            int number = text.number(3);
            if (number != NONE) {
                emit(number);
                return true;
            }
            int thing = text.oneOf(THINGS);
            if (thing >= 0) {
                emit(THING + thing);
                return true;
            }
            if (nested >= MOST_NESTED || !text.take('(')) {
                return false;
            }
            return readLevel(text, 0, nested + 1) && text.take(')');
        }

        /** Each code stems from a sign of its own, so there is room for all. */
        private void emit(int code) {
            if (draftSize < MOST_SIGNS) {
                draft[draftSize] = code;
                draftSize++;
            }
        }

        int odds() {
            int top = 0;
            for (int i = 0; i < size; i++) {
                int code = codes[i];
                if (code < JOIN && top < MOST_SIGNS) {
                    stack[top] = code < THING ? code : things[code - THING];
                    top++;
                } else if (code == NEGATE && top >= 1) {
                    stack[top - 1] = -stack[top - 1];
                } else if (top >= 2) {
                    top--;
                    stack[top - 1] = join(code - JOIN, stack[top - 1], stack[top]);
                }
            }
            int value = top > 0 ? stack[0] : usual();
            return Math.max(0, Math.min(100, value));
        }

        private static int join(int sign, int one, int other) {
            switch (sign) {
                case LESS:
                    return one < other ? 1 : 0;
                case MORE:
                    return one > other ? 1 : 0;
                case LIKE:
                    return one == other ? 1 : 0;
                case PLUS:
                    return one + other;
                case MINUS:
                    return one - other;
                case TIMES:
                    return one * other;
                default:
                    return other == 0 ? 0 : one / other;
            }
        }

        /** THE RULE where none is told: h*3-s*2-c+p*p+x*4+f*2+5. */
        private int usual() {
            int height = things[0];
            int scope = things[1];
            int care = things[2];
            int pace = things[3];
            int cut = things[4];
            int lean = things[5];
            return height * 3 - scope * 2 - care + pace * pace + cut * 4 + lean * 2 + 5;
        }
    }

    /** THE RING, HORSES, PLANS and THE RULE, and what follows for one HORSE at one FENCE. */
    private static final class Course {
        private static final int STRIDE = 0;
        private static final int SCOPE = 1;
        private static final int CARE = 2;
        private static final int HORSE_DIGITS = CARE + KINDS;
        private static final int PACES = 4;
        private static final int HEIGHTS = MOST_HEIGHT + 1;
        private static final int DOUBLE = 2;
        private static final int LOOKED_AT = 3;

        private final int[] kinds = new int[MOST_FENCES];
        private final int[] heights = new int[MOST_FENCES];
        private final int[] feet = new int[MOST_FENCES];
        private int fences;
        private final int[] draft = new int[3 * MOST_FENCES];
        private final int[] digits = new int[MOST_HORSES * HORSE_DIGITS];
        private int horseCount;
        private final int[] plans = new int[MOST_PLANS * MOST_FENCES];
        private int planCount;
        private int allowed = 600;
        private final Rule rule = new Rule();
        private final int[] counts = new int[MOST_FENCES * HEIGHTS];
        private final int[] poles = new int[MOST_FENCES];
        private final int[] refusals = new int[MOST_FENCES];

        boolean hasFence(int fence) {
            return fence >= 0 && fence < fences;
        }

        boolean hasHorse(int horse) {
            return horse >= 0 && horse < horseCount;
        }

        boolean hasPlan(int plan) {
            return plan >= 0 && plan < planCount;
        }

        int readRing(Signs text) {
            text.open(LINES_TEXT);
            for (int line = 0; line < MOST_FENCES; line++) {
                if (!readFence(text, line)) {
                    return text.fault();
                }
                if (text.isDone()) {
                    takeDraft(line + 1);
                    return line + 1;
                }
                if (!text.take(';')) {
                    return text.fault();
                }
            }
            return text.fault();
        }

        private boolean readFence(Signs text, int line) {
            int kind = text.oneOf("uwdl");
            if (kind < 0) {
                return false;
            }
            int height = text.digit(0, MOST_HEIGHT);
            if (height == NONE || !text.take('@')) {
                return false;
            }
            int tens = text.digit(1, 9);
            int ones = tens == NONE ? NONE : text.digit(0, 9);
            draft[3 * line] = kind;
            draft[3 * line + 1] = height;
            draft[3 * line + 2] = tens * 10 + ones;
            return ones != NONE;
        }

        private void takeDraft(int lines) {
            for (int line = 0; line < lines; line++) {
                kinds[line] = draft[3 * line];
                heights[line] = draft[3 * line + 1];
                feet[line] = draft[3 * line + 2];
            }
            fences = lines;
            planCount = 0;
        }

        int readHorses(Signs text) {
            text.open(LINES_TEXT);
            if (text.isDone()) {
                return 0;
            }
            for (int line = 0; horseCount + line < MOST_HORSES; line++) {
                if (!readHorse(text, horseCount + line)) {
                    return text.fault();
                }
                if (text.isDone()) {
                    horseCount += line + 1;
                    return line + 1;
                }
                if (!text.take(';')) {
                    return text.fault();
                }
            }
            return text.fault();
        }

        /** A HORSE behind those that count is not seen till the count takes it in. */
        private boolean readHorse(Signs text, int horse) {
            for (int i = 0; i < HORSE_DIGITS; i++) {
                int digit = text.digit(i == STRIDE ? 3 : 0, 9);
                if (digit == NONE) {
                    return false;
                }
                digits[horse * HORSE_DIGITS + i] = digit;
            }
            return true;
        }

        int readPlan(Signs text) {
            if (planCount >= MOST_PLANS) {
                return ASKED_FIRST;
            }
            text.open(WHOLE_TEXT);
            for (int fence = 0; fence < fences; fence++) {
                int letter = text.oneOf("abcdefgh");
                if (letter < 0) {
                    return text.fault();
                }
                plans[planCount * MOST_FENCES + fence] = letter;
            }
            if (!text.isDone()) {
                return text.fault();
            }
            planCount++;
            return planCount - 1;
        }

        int ofHorse(int horse, int what) {
            return digits[horse * HORSE_DIGITS + what];
        }

        int letterAt(int plan, int fence) {
            return plans[plan * MOST_FENCES + fence];
        }

        static boolean isCut(int letter) {
            return letter >= PACES;
        }

        static int lean(int feet, int stride) {
            if (stride <= 0) {
                return 0;
            }
            int left = feet % stride;
            return Math.min(left, stride - left);
        }

        int leanAt(int horse, int fence) {
            return lean(feet[fence], ofHorse(horse, STRIDE));
        }

        int fenceTenths(int fence, int letter) {
            int tenths = feet[fence] * (6 - letter % PACES) / 4;
            if (isCut(letter)) {
                tenths -= feet[fence] / 4;
            }
            if (kinds[fence] == DOUBLE) {
                tenths += 2;
            }
            return Math.max(1, tenths);
        }

        int planTenths(int plan) {
            int sum = 0;
            for (int fence = 0; fence < fences; fence++) {
                sum += fenceTenths(fence, letterAt(plan, fence));
            }
            return sum;
        }

        int refusalOdds(int horse, int fence) {
            int odds = Math.max(0, 8 * (leanAt(horse, fence) - 2));
            boolean looks = kinds[fence] == LOOKED_AT && ofHorse(horse, CARE + LOOKED_AT) < 5;
            return looks ? odds + 5 : odds;
        }

        int poleOdds(int horse, int fence, int letter) {
            int[] things = rule.things;
            things[0] = heights[fence];
            things[1] = ofHorse(horse, SCOPE);
            things[2] = ofHorse(horse, CARE + kinds[fence]);
            things[3] = letter % PACES;
            things[4] = isCut(letter) ? 1 : 0;
            things[5] = leanAt(horse, fence);
            things[6] = fence;
            things[7] = feet[fence];
            return rule.odds();
        }

        int clearOf(int horse, int plan) {
            int clear = CERTAIN;
            for (int fence = 0; fence < fences; fence++) {
                int odds = poleOdds(horse, fence, letterAt(plan, fence));
                clear = passing(clear, refusalOdds(horse, fence), odds);
            }
            return clear;
        }

        private static int passing(int clear, int refusal, int pole) {
            return clear * (100 - refusal) / 100 * (100 - pole) / 100;
        }

        /** How many come through with one FENCE alone at each HEIGHT, in counts. */
        void countThrough(int plan, int v) {
            Arrays.fill(counts, 0);
            for (int horse = 0; horse < horseCount; horse++) {
                for (int fence = 0; fence < fences; fence++) {
                    poles[fence] = poleOdds(horse, fence, letterAt(plan, fence));
                    refusals[fence] = refusalOdds(horse, fence);
                }
                for (int fence = 0; fence < fences; fence++) {
                    countAtHeights(horse, fence, letterAt(plan, fence), v);
                }
            }
        }

        /** THE RULE is asked anew for the one FENCE that changes, as asking it is dear. */
        private void countAtHeights(int horse, int changed, int letter, int v) {
            int was = heights[changed];
            for (int height = 0; height < HEIGHTS; height++) {
                heights[changed] = height;
                int odds = poleOdds(horse, changed, letter);
                int clear = CERTAIN;
                for (int fence = 0; fence < fences; fence++) {
                    clear = passing(clear, refusals[fence], fence == changed ? odds : poles[fence]);
                }
                counts[changed * HEIGHTS + height] += clear >= v ? 1 : 0;
            }
            heights[changed] = was;
        }
    }

    /** A ROUND as it is drawn. */
    private static final class Drawn {
        private int state;
        private int faults;
        private int tenths;
        private int refused;
        private int fallen;

        void draw(Course course, int horse, int plan, int seed) {
            state = seed;
            faults = 0;
            tenths = course.planTenths(plan);
            refused = 0;
            fallen = 0;
            for (int fence = 0; fence < course.fences; fence++) {
                if (next(100) < course.refusalOdds(horse, fence)) {
                    refused |= 1 << fence;
                    faults += FAULTS_A_POLE;
                    tenths += REFUSAL_TENTHS;
                }
                if (next(100) < course.poleOdds(horse, fence, course.letterAt(plan, fence))) {
                    fallen |= 1 << fence;
                    faults += FAULTS_A_POLE;
                }
            }
            faults += begun(tenths, course.allowed, TENTHS_A_FAULT);
        }

        private int next(int n) {
            state = state * 1103515245 + 12345;
            return n > 0 ? (state >>> 16) % n : 0;
        }
    }

    /** THE TABLE, with MONEY of its places. */
    private static final class Table {
        /** A common multiple of 1 .. 12, so that the mean of FAULTS of as many ROUNDS is a whole number of it. */
        private static final int MEAN_SCALE = 27720;
        private static final int PRIZES = 6;

        private final int[] riders = new int[MOST_ROUNDS];
        private final int[] horses = new int[MOST_ROUNDS];
        private final int[] faults = new int[MOST_ROUNDS];
        private final int[] tenths = new int[MOST_ROUNDS];
        private int size;
        private final int[] money = {50, 30, 20, 10, 5, 5};
        private final int[] draft = new int[PRIZES];

        int readMoney(Signs text) {
            text.open(WHOLE_TEXT);
            Arrays.fill(draft, 0);
            for (int i = 0; i < PRIZES; i++) {
                draft[i] = text.number(2);
                if (draft[i] == NONE) {
                    return text.fault();
                }
                if (text.isDone()) {
                    System.arraycopy(draft, 0, money, 0, PRIZES);
                    return i + 1;
                }
                if (!text.take(',')) {
                    return text.fault();
                }
            }
            return text.fault();
        }

        int moneyAt(int place) {
            return place >= 1 && place <= PRIZES ? money[place - 1] : 0;
        }

        int moneyInAll() {
            int sum = 0;
            for (int i = 0; i < PRIZES; i++) {
                sum += money[i];
            }
            return sum;
        }

        boolean isFull() {
            return size >= MOST_ROUNDS;
        }

        void add(int rider, int horse, int itsFaults, int itsTenths) {
            if (isFull()) {
                return;
            }
            riders[size] = rider;
            horses[size] = horse;
            faults[size] = itsFaults;
            tenths[size] = itsTenths;
            size++;
        }

        boolean strike() {
            if (size == 0) {
                return false;
            }
            size--;
            return true;
        }

        int placeFor(int itsFaults, int itsTenths) {
            int place = 1;
            for (int i = 0; i < size; i++) {
                boolean ahead = faults[i] < itsFaults || faults[i] == itsFaults && tenths[i] <= itsTenths;
                place += ahead ? 1 : 0;
            }
            return place;
        }

        /** Its place, if FAULTS were these. */
        int placeOf(int i, int[] byFaults) {
            int place = 1;
            for (int j = 0; j < size; j++) {
                if (byFaults[j] != byFaults[i]) {
                    place += byFaults[j] < byFaults[i] ? 1 : 0;
                } else if (tenths[j] != tenths[i]) {
                    place += tenths[j] < tenths[i] ? 1 : 0;
                } else {
                    place += j < i ? 1 : 0;
                }
            }
            return place;
        }

        void tellOrder(Row row, int[] byFaults) {
            row.start();
            for (int place = 1; place <= size; place++) {
                for (int i = 0; i < size; i++) {
                    if (placeOf(i, byFaults) == place) {
                        row.put(i);
                    }
                }
            }
        }

        /** The mean of FAULTS, MEAN_SCALE times, or NONE. */
        long scaledMean(int rider, int horse) {
            long sum = 0;
            int number = 0;
            for (int i = 0; i < size; i++) {
                if (riders[i] == rider && horses[i] == horse) {
                    sum += faults[i];
                    number++;
                }
            }
            return number == 0 ? NONE : sum * MEAN_SCALE / number;
        }
    }

    /** TABLES as they were, each in a slot: under its number, or as a history, the latest of count last. */
    private static final class Shelf {
        private static final int CELLS = 4 * MOST_ROUNDS;

        private final int slots;
        private final int[] cells;
        private final int[] sizes;
        private int count;

        Shelf(int howMany) {
            slots = Math.max(1, howMany);
            cells = new int[slots * CELLS];
            sizes = new int[slots];
            Arrays.fill(sizes, NONE);
        }

        void forget() {
            Arrays.fill(sizes, NONE);
            count = 0;
        }

        boolean store(int slot, Table table) {
            if (slot < 0 || slot >= slots) {
                return false;
            }
            int at = slot * CELLS;
            System.arraycopy(table.riders, 0, cells, at, MOST_ROUNDS);
            System.arraycopy(table.horses, 0, cells, at + MOST_ROUNDS, MOST_ROUNDS);
            System.arraycopy(table.faults, 0, cells, at + 2 * MOST_ROUNDS, MOST_ROUNDS);
            System.arraycopy(table.tenths, 0, cells, at + 3 * MOST_ROUNDS, MOST_ROUNDS);
            sizes[slot] = table.size;
            return true;
        }

        boolean load(int slot, Table table) {
            if (slot < 0 || slot >= slots || sizes[slot] == NONE) {
                return false;
            }
            int at = slot * CELLS;
            System.arraycopy(cells, at, table.riders, 0, MOST_ROUNDS);
            System.arraycopy(cells, at + MOST_ROUNDS, table.horses, 0, MOST_ROUNDS);
            System.arraycopy(cells, at + 2 * MOST_ROUNDS, table.faults, 0, MOST_ROUNDS);
            System.arraycopy(cells, at + 3 * MOST_ROUNDS, table.tenths, 0, MOST_ROUNDS);
            table.size = sizes[slot];
            return true;
        }

        /** A TABLE is marked ahead of a call that may yet come to nothing: only commit() makes it count. */
        void mark(Table table) {
            store(count, table);
        }

        /** One slot stays free for the next mark, so that no mark pushes a TABLE out before it counts. */
        void commit() {
            if (count < slots - 1) {
                count++;
                return;
            }
            System.arraycopy(cells, CELLS, cells, 0, (slots - 1) * CELLS);
            System.arraycopy(sizes, 1, sizes, 0, slots - 1);
        }

        int back(Table table) {
            if (count == 0 || !load(count - 1, table)) {
                return NONE;
            }
            count--;
            return count;
        }
    }

    /** One ACT of A SHOW. */
    private static final class Act {
        private static final int MOST_SIGNS = 60;

        private char kind;
        private int rider;
        private int horse;
        private int third;
        private int fourth;

        /** 0, or the fault of the first sign that can't stand. */
        int check(Signs text) {
            text.open(MOST_SIGNS);
            if (text.isDone()) {
                return 0;
            }
            for (int i = 0; i < MOST_SIGNS; i++) {
                if (!read(text)) {
                    return text.fault();
                }
                if (text.isDone()) {
                    return 0;
                }
                if (!text.take(';')) {
                    return text.fault();
                }
            }
            return text.fault();
        }

        boolean read(Signs text) {
            if (text.take('x')) {
                kind = 'x';
                return true;
            }
            if (text.take('r')) {
                kind = 'r';
                return readPair(text) && readRide(text);
            }
            kind = 't';
            return text.take('t') && readPair(text) && readTold(text);
        }

        private boolean readPair(Signs text) {
            rider = text.digit(0, 9);
            horse = rider == NONE ? NONE : text.digit(0, 9);
            return horse != NONE;
        }

        private boolean readRide(Signs text) {
            third = text.digit(0, 9);
            if (third == NONE || !text.take('*')) {
                return false;
            }
            fourth = text.digit(0, 9);
            return fourth != NONE;
        }

        private boolean readTold(Signs text) {
            if (!text.take(':')) {
                return false;
            }
            third = text.number(2);
            if (third == NONE || !text.take('+')) {
                return false;
            }
            fourth = text.number(4);
            return fourth != NONE;
        }
    }

    /** The least FEAR of a HORSE by letters, for each sum of TENTHS that they can take. */
    private static final class Letters {
        private static final int MOST_A_FENCE = MOST_FEET * 6 / 4 + 2;
        private static final int CHOICES = MOST_FENCES * LETTERS;
        private static final int SUMS = MOST_A_FENCE * MOST_FENCES * (MOST_FENCES + 1) / 2 + MOST_FENCES + 1;

        private final int[] fears = new int[CHOICES];
        private final int[] tenths = new int[CHOICES];
        private final int[] least = new int[SUMS];
        private final int[] spans = new int[MOST_FENCES + 1];
        private int fences;

        /** Where the sums of the last so many FENCES begin in least: each FENCE more makes them longer. */
        private static int from(int behind) {
            return MOST_A_FENCE * behind * (behind - 1) / 2 + behind;
        }

        void lay(Course course, int horse) {
            fences = course.fences;
            for (int fence = 0; fence < fences; fence++) {
                int refusal = course.refusalOdds(horse, fence);
                for (int letter = 0; letter < LETTERS; letter++) {
                    fears[fence * LETTERS + letter] = course.poleOdds(horse, fence, letter) + refusal;
                    tenths[fence * LETTERS + letter] = course.fenceTenths(fence, letter);
                }
            }
            spans[0] = 0;
            least[from(0)] = 0;
            for (int behind = 1; behind <= fences; behind++) {
                layBehind(behind);
            }
        }

        private void layBehind(int behind) {
            int choice = (fences - behind) * LETTERS;
            int longest = 0;
            for (int letter = 0; letter < LETTERS; letter++) {
                longest = Math.max(longest, tenths[choice + letter]);
            }
            spans[behind] = spans[behind - 1] + longest;
            int here = from(behind);
            for (int sum = 0; sum <= spans[behind]; sum++) {
                least[here + sum] = NONE;
            }
            for (int sum = 0; sum <= spans[behind - 1]; sum++) {
                int fear = least[from(behind - 1) + sum];
                for (int letter = 0; letter < LETTERS && fear != NONE; letter++) {
                    int cell = here + sum + tenths[choice + letter];
                    int together = fear + fears[choice + letter];
                    if (least[cell] == NONE || together < least[cell]) {
                        least[cell] = together;
                    }
                }
            }
        }

        int fearWith(int sum) {
            return sum >= 0 && sum <= spans[fences] ? least[from(fences) + sum] : NONE;
        }

        int calmestTenths(int most) {
            int best = NONE;
            for (int sum = 0; sum <= Math.min(most, spans[fences]); sum++) {
                if (fearWith(sum) != NONE && (best == NONE || fearWith(sum) < fearWith(best))) {
                    best = sum;
                }
            }
            return best;
        }

        int fewestTenths(int mostFear) {
            for (int sum = 0; sum <= spans[fences]; sum++) {
                if (fearWith(sum) != NONE && fearWith(sum) <= mostFear) {
                    return sum;
                }
            }
            return NONE;
        }

        /** The least letters first: each FENCE takes the first by which those behind it can still make up the sum. */
        void tell(Row row, int sum) {
            int left = sum;
            int fear = fearWith(sum);
            for (int fence = 0; fence < fences; fence++) {
                int letter = firstLetter(fence, left, fear);
                row.put(letter);
                left -= tenths[fence * LETTERS + letter];
                fear -= fears[fence * LETTERS + letter];
            }
        }

        private int firstLetter(int fence, int sum, int fear) {
            int behind = fences - fence - 1;
            for (int letter = 0; letter < LETTERS; letter++) {
                int left = sum - tenths[fence * LETTERS + letter];
                boolean can = left >= 0 && left <= spans[behind] && least[from(behind) + left] != NONE;
                if (can && least[from(behind) + left] + fears[fence * LETTERS + letter] == fear) {
                    return letter;
                }
            }
            return 0;
        }
    }

    /** Up to three who are to come, each taking the PLAN that is best for it. */
    private static final class Game {
        private static final int MOST = 3;

        private final int[] named = new int[MOST];
        private int players;
        private int plans;
        private int firstPlan;
        /** By PLAN, and whether it is CLEAR (even) or not (odd). */
        private final int[] faults = new int[2 * MOST_PLANS];
        private final int[] tenths = new int[2 * MOST_PLANS];
        private final int[] places = new int[2 * MOST_PLANS];
        private final int[] clears = new int[MOST * MOST_PLANS];
        private final int[] ends = new int[MOST];
        /** By how many have ridden, then by player, times 10000 for each who has not. */
        private final long[] worth = new long[(MOST + 1) * MOST];
        private final long[] trial = new long[MOST * MOST];

        int readPlayers(Signs text, int horses, int least, int most) {
            text.open(WHOLE_TEXT);
            players = 0;
            for (int i = 0; i < most && !text.isDone(); i++) {
                int horse = text.digit(0, horses - 1);
                if (horse == NONE) {
                    return text.fault();
                }
                named[i] = horse;
                players++;
            }
            return players < least || !text.isDone() ? text.fault() : 0;
        }

        void begin(Course course, Table table) {
            plans = course.planCount;
            for (int plan = 0; plan < plans; plan++) {
                int time = course.planTenths(plan);
                int late = begun(time, course.allowed, TENTHS_A_FAULT);
                for (int end = 0; end < 2; end++) {
                    faults[2 * plan + end] = late + end * FAULTS_A_POLE;
                    tenths[2 * plan + end] = time;
                    places[2 * plan + end] = table.placeFor(late + end * FAULTS_A_POLE, time);
                }
            }
        }

        /** The first named comes at a place in the order, the others behind one another. */
        void start(Course course, Table table, int firstAt) {
            for (int player = 0; player < players; player++) {
                int name = player == firstAt ? 0 : player;
                if (player < firstAt) {
                    name = player + 1;
                }
                for (int plan = 0; plan < plans && name < players; plan++) {
                    clears[player * MOST_PLANS + plan] = course.clearOf(named[name], plan);
                }
            }
            settle(table, 0);
        }

        long won(int player) {
            return player >= 0 && player < players ? worth[player] : 0;
        }

        long scale() {
            long scale = 1;
            for (int player = 0; player < players; player++) {
                scale *= CERTAIN;
            }
            return scale;
        }

        private void settle(Table table, int ridden) {
            if (ridden >= players) {
                pay(table);
                return;
            }
            int from = ridden * MOST;
            for (int plan = 0; plan < plans; plan++) {
                weigh(table, ridden, plan);
                if (plan == 0 || trial[from + ridden] > worth[from + ridden]) {
                    System.arraycopy(trial, from, worth, from, MOST);
                    firstPlan = ridden == 0 ? plan : firstPlan;
                }
            }
        }

        private void weigh(Table table, int ridden, int plan) {
            int from = ridden * MOST;
            long clear = clears[ridden * MOST_PLANS + plan];
            ends[ridden] = 2 * plan;
            settle(table, ridden + 1);
            for (int player = 0; player < players; player++) {
                trial[from + player] = clear * worth[from + MOST + player];
            }
            ends[ridden] = 2 * plan + 1;
            settle(table, ridden + 1);
            for (int player = 0; player < players; player++) {
                trial[from + player] += (CERTAIN - clear) * worth[from + MOST + player];
            }
        }

        private void pay(Table table) {
            for (int player = 0; player < players; player++) {
                int place = places[ends[player]];
                for (int other = 0; other < players; other++) {
                    place += other != player && isAhead(other, player) ? 1 : 0;
                }
                worth[players * MOST + player] = table.moneyAt(place);
            }
        }

        private boolean isAhead(int one, int other) {
            int a = ends[one];
            int b = ends[other];
            if (faults[a] != faults[b]) {
                return faults[a] < faults[b];
            }
            return tenths[a] < tenths[b] || tenths[a] == tenths[b] && one < other;
        }
    }

    /** What of FAULTS is the RIDER's, and what the HORSE's. */
    private static final class Parts {
        private static final int OF_EACH = 3;
        private static final int SIZES = 5;
        private static final int WAYS = SIZES * SIZES * SIZES;

        private final int[] trial = new int[2 * OF_EACH];
        private final int[] best = new int[2 * OF_EACH];

        int explain(Table table, Row row) {
            int least = NONE;
            for (int way = 0; way < WAYS; way++) {
                trial[0] = way / (SIZES * SIZES);
                trial[1] = way / SIZES % SIZES;
                trial[2] = way % SIZES;
                int off = 0;
                for (int horse = 0; horse < OF_EACH; horse++) {
                    off += fitHorse(table, horse);
                }
                if (least == NONE || off < least) {
                    least = off;
                    System.arraycopy(trial, 0, best, 0, 2 * OF_EACH);
                }
            }
            row.start();
            for (int i = 0; i < 2 * OF_EACH; i++) {
                row.put(best[i]);
            }
            row.put(countExplained(table));
            return least;
        }

        /** Once parts of RIDERS stand, HORSES do not touch one another: each has its own best. */
        private int fitHorse(Table table, int horse) {
            int least = NONE;
            for (int part = 0; part < SIZES; part++) {
                int off = 0;
                for (int i = 0; i < table.size; i++) {
                    if (table.horses[i] == horse && table.riders[i] < OF_EACH) {
                        off += Math.abs(table.faults[i] - trial[table.riders[i]] - part);
                    }
                }
                if (least == NONE || off < least) {
                    least = off;
                    trial[OF_EACH + horse] = part;
                }
            }
            return least;
        }

        private static int countExplained(Table table) {
            int explained = 0;
            for (int i = 0; i < table.size; i++) {
                explained += table.horses[i] < OF_EACH && table.riders[i] < OF_EACH ? 1 : 0;
            }
            return explained;
        }
    }
}
