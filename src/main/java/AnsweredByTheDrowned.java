/**
 * A bell above rings THE RING by strokes and gaps; a bell below the lake answers it by laws.
 * A ring is held as bits: bit t is set where STEP t is a STROKE, and no bit stands behind its last STEP.
 */
public final class AnsweredByTheDrowned {
    public static final int NONE = -1;

    private static final int FINE = 0;
    private static final int BAD = -2;
    private static final int OTHER = -3;
    private static final int NOTHING = -4;
    private static final int STUCK = -5;
    private static final int FULL = -6;

    private static final int FIRST_FAULT = -20;

    private static final int MOST_A = 9;
    private static final int MOST_DEPTH = 9;
    private static final int MOST_MISS = 100;
    private static final int MOST_AGE = 99;
    private static final int MOST_STEPS = 40;
    private static final int MOST_TRIED_STEPS = 12;
    private static final int LAST_REPETITION = 60;
    private static final int LAST_DAY = 9999;
    private static final int MOST_DIVISOR = 99;
    private static final int MOST_TOLLS = 999;

    private static final int WHAT_HEARD = 0;
    private static final int WHAT_SILENT = 2;

    private final Lake now = new Lake();
    private final Lake kept = new Lake();
    private final LakeReader reader = new LakeReader();
    private final Shelves shelves = new Shelves();
    private final int[] refusals = new int[5];
    private boolean isKept;

    public AnsweredByTheDrowned() {
    }

    // ---- shelves

    public int row(int s, int sort, int n) {
        if (!Shelves.isShelf(s) || !isWithin(sort, 0, Shelves.BOOLEANS) || !isWithin(n, 0, MOST_STEPS)) {
            return refuse(BAD);
        }
        shelves.putRow(s, sort, n);
        return 1;
    }

    public int set(int s, int i, long v) {
        int refusal = refusalOfRow(s);
        if (refusal == FINE && !isWithin(i, 0, shelves.sizeOf(s) - 1)) {
            refusal = BAD;
        }
        if (refusal != FINE) {
            return refuse(refusal);
        }
        shelves.putElement(s, i, v);
        return 1;
    }

    public int copy(int p, int q, int i, int j, int n) {
        int refusal = refusalOfTwoRows(p, q);
        if (refusal == FINE && !(shelves.hasElements(p, i, n) && shelves.hasElements(q, j, n))) {
            refusal = BAD;
        }
        if (refusal != FINE) {
            return refuse(refusal);
        }
        shelves.copyElements(p, q, i, j, n);
        return n;
    }

    public long element(int s, int i) {
        return shelves.elementAt(s, i);
    }

    public int holds(int s) {
        return shelves.heldOn(s);
    }

    public int show(int s, int law) {
        if (!Shelves.isShelf(s) || law != NONE && !now.laws.isThere(law)) {
            return refuse(BAD);
        }
        if (law == NONE) {
            shelves.putNothing(s);
        } else {
            shelves.putLaw(s, law);
        }
        return 1;
    }

    public int says(int s, int kind) {
        if (!Shelves.isShelf(s) || !Laws.isKind(kind)) {
            return refuse(BAD);
        }
        int law = shelves.lawOn(s);
        if (shelves.holdsRow(s) || law != NONE && !Laws.isUnder(now.laws.kindOf(law), kind)) {
            return refuse(OTHER);
        }
        if (law == NONE) {
            return refuse(NOTHING);
        }
        switch (kind) {
            case Laws.LAW:
                return now.laws.tuneOf(law);
            case Laws.ECHO:
            case Laws.LATE:
                return Laws.stepsLookedAhead(now.laws.kindOf(law), now.laws.tuneOf(law));
            default:
                return now.timesStruck(law, now.ring);
        }
    }

    // ---- what there is

    public int law(int kind, int a) {
        if (!Laws.isKind(kind) || !isWithin(a, 0, MOST_A)) {
            return refuse(BAD);
        }
        if (!now.laws.hasRoom()) {
            return refuse(FULL);
        }
        return now.laws.add(kind, a);
    }

    public int use(int law) {
        if (!now.laws.isThere(law)) {
            return refuse(BAD);
        }
        int ahead = now.inForce;
        now.inForce = law;
        return ahead;
    }

    public int ask(int what, int v) {
        if (!isWithin(what, 0, 1) || !isWithin(v, 0, what == 0 ? MOST_DEPTH : MOST_MISS)) {
            return refuse(BAD);
        }
        int was = what == 0 ? now.depth : now.miss;
        if (what == 0) {
            now.depth = v;
        } else {
            now.miss = v;
        }
        return was;
    }

    public int person(int age) {
        if (!isWithin(age, 1, MOST_AGE)) {
            return refuse(BAD);
        }
        if (!now.people.hasRoom()) {
            return refuse(FULL);
        }
        return now.people.add(age);
    }

    public int feed(int letter) {
        if (!isWithin(letter, 0, 255)) {
            return refuse(BAD);
        }
        if (!reader.tape.hasRoom()) {
            return refuse(FULL);
        }
        return reader.tape.add(letter);
    }

    public int wipe() {
        int ahead = reader.tape.size;
        reader.tape.size = 0;
        return ahead;
    }

    public int lake() {
        reader.draft.takeFrom(now);
        int statements = reader.readLake();
        reader.tape.size = 0;
        if (statements == NONE) {
            refuse(BAD);
            return FIRST_FAULT - reader.tape.tokenStart;
        }
        now.takeFrom(reader.draft);
        return statements;
    }

    public int lawOf(int law, int what) {
        if (!now.laws.isThere(law) || !isWithin(what, 0, 1)) {
            return refuse(BAD);
        }
        return what == 0 ? now.laws.kindOf(law) : now.laws.tuneOf(law);
    }

    public int age(int person) {
        return now.people.isThere(person) ? now.people.ageOf(person) : refuse(BAD);
    }

    // ---- what is heard

    public int step(int t) {
        return isStep(t) ? asNumber(isIn(now.ring, t)) : refuse(BAD);
    }

    public int strikes(int t) {
        if (!isStep(t)) {
            return refuse(BAD);
        }
        if (now.laws.count == 0) {
            return refuse(STUCK);
        }
        return asNumber(now.wouldStrike(t));
    }

    public int strikesBy(int law, int t) {
        if (!now.laws.isThere(law) || !isStep(t)) {
            return refuse(BAD);
        }
        return asNumber(now.laws.strikesAt(law, now.ring, now.steps, t));
    }

    public int heard(int t, int what) {
        if (!isStep(t) || !isWithin(what, WHAT_HEARD, WHAT_SILENT)) {
            return refuse(BAD);
        }
        return asNumber(isIn(now.sounds(now.ring, now.steps, what), t));
    }

    public int all(int what) {
        if (!isWithin(what, WHAT_HEARD, WHAT_SILENT)) {
            return refuse(BAD);
        }
        return Long.bitCount(now.sounds(now.ring, now.steps, what));
    }

    public int silent(int from) {
        if (!isStep(from)) {
            return refuse(BAD);
        }
        return firstIn(now.sounds(now.ring, now.steps, WHAT_SILENT), from, now.steps);
    }

    public int run(int what) {
        switch (what) {
            case 0:
                return longestRun(now.ring, now.steps);
            case 1:
                return longestRun(~now.ring, now.steps);
            case 2:
                return longestRun(now.sounds(now.ring, now.steps, WHAT_SILENT), now.steps);
            default:
                return refuse(BAD);
        }
    }

    public int loop(int time) {
        if (!isWithin(time, 0, LAST_REPETITION)) {
            return refuse(BAD);
        }
        if (now.laws.count == 0) {
            return refuse(STUCK);
        }
        return Long.bitCount(now.struckInRepetition(time));
    }

    public int period() {
        for (int p = 1; p < now.steps; p++) {
            if (now.ring >>> p == (now.ring & firstBits(now.steps - p))) {
                return p;
            }
        }
        return now.steps;
    }

    public int mirror() {
        return asNumber(now.turnedAbout() == now.ring);
    }

    public int lastStroke() {
        int last = NONE;
        for (int t = 0; t < now.steps; t++) {
            if (isIn(now.ring, t)) {
                last = t;
            }
        }
        return last;
    }

    public int shift(int from) {
        if (!isStep(from)) {
            return refuse(BAD);
        }
        long begun = (now.ring >>> from | now.ring << (now.steps - from)) & firstBits(now.steps);
        return now.timesStruck(now.inForce, begun);
    }

    public int flip() {
        if (now.steps == 0) {
            return refuse(STUCK);
        }
        int best = 0;
        int most = NONE;
        for (int t = 0; t < now.steps; t++) {
            int heard = Long.bitCount(now.sounds(now.ring ^ 1L << t, now.steps, WHAT_HEARD));
            if (heard > most) {
                best = t;
                most = heard;
            }
        }
        return best;
    }

    public int until(int v) {
        if (!isWithin(v, 0, MOST_STEPS)) {
            return refuse(BAD);
        }
        long struck = now.struck(now.inForce, now.ring);
        for (int n = 0; n <= now.steps; n++) {
            if (Long.bitCount(struck & firstBits(n)) >= v) {
                return n;
            }
        }
        return NONE;
    }

    // ---- laws beside one another

    public int sameAs(int law) {
        if (!now.laws.isThere(law)) {
            return refuse(BAD);
        }
        long struck = now.struck(law, now.ring);
        int same = 0;
        for (int other = 0; other < now.laws.count; other++) {
            if (now.struck(other, now.ring) == struck) {
                same |= 1 << other;
            }
        }
        return same;
    }

    public int apart(int law, int other) {
        if (!areTwoLaws(law, other)) {
            return refuse(BAD);
        }
        return firstIn(now.struck(law, now.ring) ^ now.struck(other, now.ring), 0, now.steps);
    }

    public int parts(int law, int other, int what) {
        if (!areTwoLaws(law, other) || !isWithin(what, 0, 1)) {
            return refuse(BAD);
        }
        for (int n = 1; n <= MOST_TRIED_STEPS; n++) {
            int ring = now.laws.firstPartingRing(law, other, n);
            if (ring != NONE) {
                return what == 0 ? n : ring;
            }
        }
        return NONE;
    }

    public int common(int set) {
        if (!isSetOf(set, now.laws.count)) {
            return refuse(BAD);
        }
        long struck = firstBits(now.steps);
        for (int law = 0; law < now.laws.count; law++) {
            if (isIn(set, law)) {
                struck &= now.struck(law, now.ring);
            }
        }
        return Long.bitCount(struck);
    }

    public int alone(int law) {
        if (!now.laws.isThere(law)) {
            return refuse(BAD);
        }
        long struck = now.struck(law, now.ring);
        for (int other = 0; other < now.laws.count; other++) {
            if (other != law) {
                struck &= ~now.struck(other, now.ring);
            }
        }
        return Long.bitCount(struck);
    }

    public int busiest() {
        if (now.laws.count == 0) {
            return refuse(STUCK);
        }
        int best = 0;
        for (int law = 1; law < now.laws.count; law++) {
            if (now.timesStruck(law, now.ring) > now.timesStruck(best, now.ring)) {
                best = law;
            }
        }
        return best;
    }

    public int lawFor(int n, int bits) {
        if (!areTriedSteps(n, bits)) {
            return refuse(BAD);
        }
        int best = NONE;
        int fewest = n + 1;
        for (int law = 0; law < now.laws.count; law++) {
            int ring = now.laws.leastRingStruckAt(law, n, bits);
            if (ring != NONE && Integer.bitCount(ring) < fewest) {
                best = law;
                fewest = Integer.bitCount(ring);
            }
        }
        return best;
    }

    // ---- what was told of what was heard

    public int depths(int s) {
        int refusal = refusalOfHeardRow(s);
        if (refusal != FINE) {
            return refuse(refusal);
        }
        long told = shelves.elementsAsBits(s, now.steps);
        int fitting = 0;
        for (int depth = 0; depth <= MOST_DEPTH; depth++) {
            if ((now.ring | now.risen(now.inForce, depth)) == told) {
                fitting |= 1 << depth;
            }
        }
        return fitting;
    }

    public int differs(int s) {
        int refusal = refusalOfHeardRow(s);
        if (refusal != FINE) {
            return refuse(refusal);
        }
        long told = shelves.elementsAsBits(s, now.steps);
        return Long.bitCount(now.sounds(now.ring, now.steps, WHAT_HEARD) ^ told);
    }

    public int together() {
        int best = 0;
        int most = NONE;
        for (int depth = 0; depth <= MOST_DEPTH; depth++) {
            int both = Long.bitCount(now.ring & now.risen(now.inForce, depth));
            if (both > most) {
                best = depth;
                most = both;
            }
        }
        return best;
    }

    public int odds() {
        int times = now.timesStruck(now.inForce, now.ring);
        int odds = 1000000;
        for (int i = 0; i < times; i++) {
            odds = odds * (100 - now.miss) / 100;
        }
        return odds;
    }

    public int expected() {
        return 1000 * now.timesStruck(now.inForce, now.ring) * (100 - now.miss) / 100;
    }

    public int fits(int s) {
        int refusal = refusalOfHeardRow(s);
        if (refusal != FINE) {
            return refuse(refusal);
        }
        long told = shelves.elementsAsBits(s, now.steps);
        int fitting = 0;
        for (int law = 0; law < now.laws.count; law++) {
            if ((now.ring | now.risen(law, now.depth)) == told) {
                fitting |= 1 << law;
            }
        }
        return fitting;
    }

    public int next(int set, int what) {
        if (!isSetOf(set, now.laws.count) || !isWithin(what, 0, 1)) {
            return refuse(BAD);
        }
        if (!now.hasRoom()) {
            return refuse(FULL);
        }
        int byGap = now.partedBy(set, false);
        int byStroke = now.partedBy(set, true);
        if (what == 1) {
            return Math.max(byGap, byStroke);
        }
        return asNumber(byStroke > byGap);
    }

    // ---- rings that are looked for

    public int loudest(int n, int k) {
        if (!isWithin(n, 1, MOST_TRIED_STEPS) || !isWithin(k, 0, n)) {
            return refuse(BAD);
        }
        if (now.laws.count == 0) {
            return refuse(STUCK);
        }
        return now.loudestRing(n, k);
    }

    public int plan(int n, int bits) {
        if (!areTriedSteps(n, bits)) {
            return refuse(BAD);
        }
        if (now.laws.count == 0) {
            return refuse(STUCK);
        }
        return now.laws.leastRingStruckAt(now.inForce, n, bits);
    }

    public int fill(int n, int bits) {
        if (!areTriedSteps(n, bits)) {
            return refuse(BAD);
        }
        if (now.laws.count == 0) {
            return refuse(STUCK);
        }
        return now.leastRingHeardAt(n, bits);
    }

    public int round() {
        if (now.laws.count == 0 || now.steps == 0) {
            return refuse(STUCK);
        }
        long before = now.struckInRepetition(0);
        for (int time = 1; time <= LAST_REPETITION; time++) {
            long struck = now.struckInRepetition(time);
            if (struck == before) {
                return time;
            }
            before = struck;
        }
        return NONE;
    }

    // ---- days and people

    public int day(int m, int r, int n, int q) {
        if (!areDivisors(m, n) || !isWithin(r, 0, m - 1) || !isWithin(q, 0, n - 1)) {
            return refuse(BAD);
        }
        return firstDay(0, m, r, n, q);
    }

    public int tolls(int n, int what) {
        if (!isWithin(n, 0, MOST_TOLLS) || !isWithin(what, 0, 1)) {
            return refuse(BAD);
        }
        return what == 0 ? now.people.howManySets(n) : now.people.smallestSet(n);
    }

    public int meet(int m, int n) {
        return areDivisors(m, n) ? firstDay(1, m, 0, n, 0) : refuse(BAD);
    }

    public int sum(int set) {
        return isSetOf(set, now.people.count) ? now.people.agesOf(set) : refuse(BAD);
    }

    public int reached(int n) {
        return isWithin(n, 0, MOST_TOLLS) ? now.people.howManySums(n) : refuse(BAD);
    }

    public int halves() {
        return now.people.nearestToHalf();
    }

    public int ranked(int i) {
        return now.people.isThere(i) ? now.people.withRank(i) : refuse(BAD);
    }

    public int oldest() {
        return now.people.count > 0 ? now.people.firstOldest() : refuse(STUCK);
    }

    // ---- told rings

    public int judge(int s, int n) {
        int refusal = refusalOfToldRow(s, n);
        return refusal == FINE ? shelves.firstWrong(s, n) : refuse(refusal);
    }

    public int answers(int s, int n, int what) {
        int refusal = isWithin(what, 0, 2) ? refusalOfToldRing(s, n) : BAD;
        if (refusal != FINE) {
            return refuse(refusal);
        }
        long told = shelves.elementsAsBits(s, n);
        if (what == 0) {
            return Long.bitCount(now.laws.struck(now.inForce, told, n, 0));
        }
        return Long.bitCount(now.sounds(told, n, what));
    }

    public int rings(int s, int n) {
        int refusal = refusalOfToldRing(s, n);
        if (refusal != FINE) {
            return refuse(refusal);
        }
        now.ring = shelves.elementsAsBits(s, n);
        now.steps = n;
        return n;
    }

    // ---- the ring in truth

    public int ring(boolean stroke) {
        return now.hasRoom() ? asNumber(now.strikesInTruth(stroke)) : refuse(FULL);
    }

    public int days(int n) {
        if (!isWithin(n, 1, MOST_STEPS)) {
            return refuse(BAD);
        }
        int struck = 0;
        for (int i = 0; i < n && now.hasRoom(); i++) {
            boolean stroke = now.draw(2) == 1;
            struck += asNumber(now.strikesInTruth(stroke));
        }
        return struck;
    }

    public int turn() {
        now.ring = now.turnedAbout();
        return now.timesStruck(now.inForce, now.ring);
    }

    public int change(int t) {
        if (!isStep(t)) {
            return refuse(BAD);
        }
        now.ring ^= 1L << t;
        return asNumber(isIn(now.ring, t));
    }

    public int cut(int n) {
        if (!isWithin(n, 1, MOST_STEPS)) {
            return refuse(BAD);
        }
        if (now.steps < n) {
            return refuse(STUCK);
        }
        now.steps -= n;
        now.ring &= firstBits(now.steps);
        return now.steps;
    }

    public int still() {
        int steps = now.steps;
        now.clearRing();
        return steps;
    }

    public int seed(int v) {
        int ahead = now.seed;
        now.seed = v;
        return ahead;
    }

    // ---- keeping

    public int image() {
        kept.takeFrom(now);
        isKept = true;
        return 1;
    }

    public int back() {
        if (!isKept) {
            return refuse(STUCK);
        }
        now.takeFrom(kept);
        shelves.clearLawsFrom(now.laws.count);
        return 1;
    }

    public int status(int what) {
        switch (what) {
            case 0:
                return now.laws.count;
            case 1:
                return now.inForce;
            case 2:
                return now.depth;
            case 3:
                return now.miss;
            case 4:
                return now.steps;
            case 5:
                return Long.bitCount(now.ring);
            case 6:
                return now.people.count;
            case 7:
                return now.people.agesOfAll();
            case 8:
                return reader.tape.size;
            case 9:
                return now.seed;
            case 10:
                return shelves.howManyHold();
            default:
                return elementOf(refusals, what - 12, NONE);
        }
    }

    // ---- refusals

    private int refuse(int refusal) {
        int i = BAD - refusal;
        if (i >= 0 && i < refusals.length) {
            refusals[i]++;
        }
        return refusal;
    }

    private int refusalOfRow(int s) {
        if (!Shelves.isShelf(s)) {
            return BAD;
        }
        if (shelves.lawOn(s) != NONE) {
            return OTHER;
        }
        return shelves.holdsRow(s) ? FINE : NOTHING;
    }

    private int refusalOfTwoRows(int p, int q) {
        int first = refusalOfRow(p);
        int second = refusalOfRow(q);
        if (first == BAD || second == BAD) {
            return BAD;
        }
        if (first == OTHER || second == OTHER) {
            return OTHER;
        }
        if (first == NOTHING || second == NOTHING) {
            return NOTHING;
        }
        return shelves.heldOn(p) == shelves.heldOn(q) ? FINE : OTHER;
    }

    private int refusalOfHeardRow(int s) {
        int refusal = refusalOfRow(s);
        return refusal == FINE && shelves.sizeOf(s) < now.steps ? BAD : refusal;
    }

    private int refusalOfToldRow(int s, int n) {
        if (!isWithin(n, 0, MOST_STEPS)) {
            return BAD;
        }
        int refusal = refusalOfRow(s);
        return refusal == FINE && shelves.sizeOf(s) < n ? BAD : refusal;
    }

    private int refusalOfToldRing(int s, int n) {
        int refusal = refusalOfToldRow(s, n);
        return refusal == FINE && shelves.firstWrong(s, n) != NONE ? STUCK : refusal;
    }

    private boolean isStep(int t) {
        return isWithin(t, 0, now.steps - 1);
    }

    private boolean areTwoLaws(int law, int other) {
        return now.laws.isThere(law) && now.laws.isThere(other) && law != other;
    }

    private static boolean areTriedSteps(int n, int bits) {
        return isWithin(n, 1, MOST_TRIED_STEPS) && isSetOf(bits, n);
    }

    private static boolean areDivisors(int m, int n) {
        return isWithin(m, 1, MOST_DIVISOR) && isWithin(n, 1, MOST_DIVISOR);
    }

    // ---- numbers and bits

    private static boolean isWithin(int v, int least, int most) {
        return v >= least && v <= most;
    }

    private static int asNumber(boolean yes) {
        return yes ? 1 : 0;
    }

    private static int elementOf(int[] row, int i, int otherwise) {
        return row != null && i >= 0 && i < row.length ? row[i] : otherwise;
    }

    private static boolean isMultiple(int v, int divisor) {
        return divisor > 0 && v % divisor == 0;
    }

    private static boolean leaves(int v, int divisor, int rest) {
        return divisor > 0 && v % divisor == rest;
    }

    private static int firstDay(int from, int m, int r, int n, int q) {
        for (int day = from; day <= LAST_DAY; day++) {
            if (leaves(day, m, r) && leaves(day, n, q)) {
                return day;
            }
        }
        return NONE;
    }

    /** For n from 0 to MOST_STEPS. */
    private static long firstBits(int n) {
        return (1L << n) - 1;
    }

    private static boolean isIn(long bits, int i) {
        return (bits >>> i & 1L) != 0;
    }

    private static boolean isSetOf(int set, int members) {
        return set >= 0 && set >>> members == 0;
    }

    private static int firstIn(long bits, int from, int end) {
        for (int i = from; i < end; i++) {
            if (isIn(bits, i)) {
                return i;
            }
        }
        return NONE;
    }

    private static int longestRun(long bits, int n) {
        int longest = 0;
        int onEnd = 0;
        for (int i = 0; i < n; i++) {
            onEnd = isIn(bits, i) ? onEnd + 1 : 0;
            longest = Math.max(longest, onEnd);
        }
        return longest;
    }

    /**
     * The LAWS by number. A number that isn't there never strikes: so a lake without LAWS needs no case of its own.
     */
    private static final class Laws {
        static final int LAW = 0;
        static final int ECHO = 1;
        static final int GAPPED = 2;
        static final int LATE = 3;
        static final int COUNTER = 4;
        static final int HOURS = 5;

        private static final int MOST = 6;

        private final int[] kinds = new int[MOST];
        private final int[] tunes = new int[MOST];
        private int count;

        static boolean isKind(int kind) {
            return isWithin(kind, LAW, HOURS);
        }

        static boolean isUnder(int kind, int above) {
            if (above == LAW || above == kind) {
                return true;
            }
            return kind == LATE && above == ECHO || kind == COUNTER && above == GAPPED;
        }

        void takeFrom(Laws other) {
            count = other.count;
            for (int i = 0; i < MOST; i++) {
                write(i, other.kindOf(i), other.tuneOf(i));
            }
        }

        boolean hasRoom() {
            return count < MOST;
        }

        boolean isThere(int law) {
            return isWithin(law, 0, count - 1);
        }

        int add(int kind, int a) {
            write(count, kind, a);
            count++;
            return count - 1;
        }

        private void write(int law, int kind, int a) {
            if (law >= 0 && law < kinds.length && law < tunes.length) {
                kinds[law] = kind;
                tunes[law] = a;
            }
        }

        int kindOf(int law) {
            return elementOf(kinds, law, LAW);
        }

        int tuneOf(int law) {
            return elementOf(tunes, law, 0);
        }

        /** Of an ECHO or a LATE. */
        static int stepsLookedAhead(int kind, int a) {
            return kind == LATE ? a + 2 : a + 1;
        }

        /** At step t of a ring of n steps that is rung again and again. */
        boolean strikesAt(int law, long ring, int n, int t) {
            if (!isThere(law)) {
                return false;
            }
            int kind = kindOf(law);
            int a = tuneOf(law);
            switch (kind) {
                case ECHO:
                case LATE:
                    return isStrokeAt(ring, n, t - stepsLookedAhead(kind, a));
                case GAPPED:
                    return areGaps(ring, n, t - a, t);
                case COUNTER:
                    return isGapAt(ring, n, t) && isMultiple(strokesAhead(ring, n, t), a + 1);
                case HOURS:
                    return isMultiple(t, a + 2);
                default:
                    return isGapAt(ring, n, t);
            }
        }

        private static boolean isStrokeAt(long ring, int n, int t) {
            return n > 0 && t >= 0 && isIn(ring, t % n);
        }

        private static boolean isGapAt(long ring, int n, int t) {
            return n > 0 && t >= 0 && !isIn(ring, t % n);
        }

        private static boolean areGaps(long ring, int n, int from, int to) {
            if (n <= 0 || from < 0) {
                return false;
            }
            for (int t = from; t <= to; t++) {
                if (isIn(ring, t % n)) {
                    return false;
                }
            }
            return true;
        }

        private static int strokesAhead(long ring, int n, int t) {
            if (n <= 0 || t < 0) {
                return 0;
            }
            return t / n * Long.bitCount(ring) + Long.bitCount(ring & firstBits(t % n));
        }

        /** Bit i: it strikes at step from and i, of the n steps from there on. */
        long struck(int law, long ring, int n, int from) {
            long struck = 0;
            for (int i = 0; i < n; i++) {
                if (strikesAt(law, ring, n, from + i)) {
                    struck |= 1L << i;
                }
            }
            return struck;
        }

        private boolean strikesJustAt(int law, long ring, int n, int bits) {
            for (int t = 0; t < n; t++) {
                if (strikesAt(law, ring, n, t) != isIn(bits, t)) {
                    return false;
                }
            }
            return true;
        }

        int leastRingStruckAt(int law, int n, int bits) {
            int best = NONE;
            int fewest = n + 1;
            for (int ring = 0; ring < 1 << n; ring++) {
                int strokes = Integer.bitCount(ring);
                if (strokes < fewest && strikesJustAt(law, ring, n, bits)) {
                    best = ring;
                    fewest = strokes;
                }
            }
            return best;
        }

        /**
         * The last step alone is looked at: laws that part at an earlier one part in a ring of fewer steps, too,
         * for what comes behind a step has no say in it.
         */
        int firstPartingRing(int law, int other, int n) {
            for (int ring = 0; ring < 1 << n; ring++) {
                if (strikesAt(law, ring, n, n - 1) != strikesAt(other, ring, n, n - 1)) {
                    return ring;
                }
            }
            return NONE;
        }
    }

    /** The PEOPLE by number, and what sets of them (bits) add up to. */
    private static final class People {
        private static final int MOST = 10;

        private final int[] ages = new int[MOST];
        private final long[] sums = new long[16];
        private int count;

        void takeFrom(People other) {
            count = other.count;
            for (int i = 0; i < MOST; i++) {
                write(i, other.ageOf(i));
            }
        }

        boolean hasRoom() {
            return count < MOST;
        }

        boolean isThere(int person) {
            return isWithin(person, 0, count - 1);
        }

        int add(int age) {
            write(count, age);
            count++;
            return count - 1;
        }

        private void write(int person, int age) {
            if (person >= 0 && person < ages.length) {
                ages[person] = age;
            }
        }

        int ageOf(int person) {
            return elementOf(ages, person, 0);
        }

        int agesOf(int set) {
            int together = 0;
            for (int person = 0; person < count; person++) {
                if (isIn(set, person)) {
                    together += ageOf(person);
                }
            }
            return together;
        }

        int agesOfAll() {
            return agesOf((1 << count) - 1);
        }

        int howManySets(int n) {
            int many = 0;
            for (int set = 0; set < 1 << count; set++) {
                if (agesOf(set) == n) {
                    many++;
                }
            }
            return many;
        }

        int smallestSet(int n) {
            int best = NONE;
            int fewest = count + 1;
            for (int set = 0; set < 1 << count; set++) {
                int members = Integer.bitCount(set);
                if (members < fewest && agesOf(set) == n) {
                    best = set;
                    fewest = members;
                }
            }
            return best;
        }

        int howManySums(int most) {
            for (int i = 0; i < sums.length; i++) {
                sums[i] = 0;
            }
            for (int set = 0; set < 1 << count; set++) {
                int together = agesOf(set);
                if (together <= most) {
                    mark(together);
                }
            }
            int many = 0;
            for (int i = 0; i < sums.length; i++) {
                many += Long.bitCount(sums[i]);
            }
            return many;
        }

        private void mark(int together) {
            int word = together >> 6;
            if (word >= 0 && word < sums.length) {
                sums[word] |= 1L << (together & 63);
            }
        }

        int nearestToHalf() {
            int whole = agesOfAll();
            int best = 0;
            int least = whole;
            for (int set = 1; set < 1 << count; set++) {
                int off = Math.abs(2 * agesOf(set) - whole);
                if (off < least) {
                    best = set;
                    least = off;
                }
            }
            return best;
        }

        int withRank(int rank) {
            for (int person = 0; person < count; person++) {
                if (rankOf(person) == rank) {
                    return person;
                }
            }
            return NONE;
        }

        private int rankOf(int person) {
            int rank = 0;
            for (int other = 0; other < count; other++) {
                if (ageOf(other) < ageOf(person) || ageOf(other) == ageOf(person) && other < person) {
                    rank++;
                }
            }
            return rank;
        }

        int firstOldest() {
            int best = 0;
            for (int person = 1; person < count; person++) {
                if (ageOf(person) > ageOf(best)) {
                    best = person;
                }
            }
            return best;
        }
    }

    /** All that an image keeps: the bell below, THE RING, the PEOPLE and the SEED. */
    private static final class Lake {
        private final Laws laws = new Laws();
        private final People people = new People();
        private int inForce;
        private int depth = 2;
        private int miss;
        private long ring;
        private int steps;
        private int seed = 1;

        void takeFrom(Lake other) {
            laws.takeFrom(other.laws);
            people.takeFrom(other.people);
            inForce = other.inForce;
            depth = other.depth;
            miss = other.miss;
            ring = other.ring;
            steps = other.steps;
            seed = other.seed;
        }

        boolean hasRoom() {
            return steps < MOST_STEPS;
        }

        void addStep(boolean stroke) {
            if (hasRoom()) {
                ring |= stroke ? 1L << steps : 0L;
                steps++;
            }
        }

        void clearRing() {
            ring = 0;
            steps = 0;
        }

        boolean wouldStrike(int t) {
            return laws.strikesAt(inForce, ring, steps, t);
        }

        /** By a LAW, in another ring of as many steps as THE RING. */
        long struck(int law, long another) {
            return laws.struck(law, another, steps, 0);
        }

        int timesStruck(int law, long another) {
            return Long.bitCount(struck(law, another));
        }

        long struckInRepetition(int time) {
            return laws.struck(inForce, ring, steps, time * steps);
        }

        /** The steps at which the sound of the bell below comes up, struck by a LAW at a DEPTH. */
        long risen(int law, int deep) {
            return struck(law, ring) << deep & firstBits(steps);
        }

        /** The steps of a ring of n steps that are HEARD (what 0), BOTH (1), SILENT (2). */
        long sounds(long another, int n, int what) {
            long risen = laws.struck(inForce, another, n, 0) << depth & firstBits(n);
            switch (what) {
                case WHAT_HEARD:
                    return another | risen;
                case WHAT_SILENT:
                    return ~(another | risen) & firstBits(n);
                default:
                    return another & risen;
            }
        }

        long turnedAbout() {
            long turned = 0;
            for (int t = 0; t < steps; t++) {
                turned = turned << 1 | ring >>> t & 1L;
            }
            return turned;
        }

        int partedBy(int set, boolean stroke) {
            long longer = ring | (stroke ? 1L << steps : 0L);
            int striking = 0;
            int silent = 0;
            for (int law = 0; law < laws.count; law++) {
                if (isIn(set, law)) {
                    boolean struck = laws.strikesAt(law, longer, steps + 1, steps);
                    striking += struck ? 1 : 0;
                    silent += struck ? 0 : 1;
                }
            }
            return Math.min(striking, silent);
        }

        int loudestRing(int n, int k) {
            int best = NONE;
            int most = NONE;
            for (int another = 0; another < 1 << n; another++) {
                if (Integer.bitCount(another) == k) {
                    int loud = Long.bitCount(sounds(another, n, WHAT_HEARD));
                    if (loud > most) {
                        best = another;
                        most = loud;
                    }
                }
            }
            return best;
        }

        int leastRingHeardAt(int n, int bits) {
            int best = NONE;
            int fewest = n + 1;
            for (int another = 0; another < 1 << n; another++) {
                int strokes = Integer.bitCount(another);
                if (strokes < fewest && sounds(another, n, WHAT_HEARD) == bits) {
                    best = another;
                    fewest = strokes;
                }
            }
            return best;
        }

        int draw(int below) {
            seed = seed * 1103515245 + 12345;
            return below > 0 ? (seed >>> 16) % below : 0;
        }

        boolean strikesInTruth(boolean stroke) {
            addStep(stroke);
            return wouldStrike(steps - 1) && draw(100) >= miss;
        }
    }

    /** Each shelf's room for a ROW is made once; what it holds is NONE, a SORT, or 10 and a LAW's number. */
    private static final class Shelves {
        static final int BOOLEANS = 4;

        private static final int MANY = 8;
        private static final int FIRST_LAW = 10;

        private final int[] held = new int[MANY];
        private final int[] sizes = new int[MANY];
        private final long[] elements = new long[MANY * MOST_STEPS];

        Shelves() {
            for (int s = 0; s < held.length; s++) {
                held[s] = NONE;
            }
        }

        static boolean isShelf(int s) {
            return isWithin(s, 0, MANY - 1);
        }

        int heldOn(int s) {
            return elementOf(held, s, NONE);
        }

        boolean holdsRow(int s) {
            return isWithin(heldOn(s), 0, BOOLEANS);
        }

        /** NONE: the shelf holds no LAW. */
        int lawOn(int s) {
            return heldOn(s) >= FIRST_LAW ? heldOn(s) - FIRST_LAW : NONE;
        }

        int sizeOf(int s) {
            return elementOf(sizes, s, 0);
        }

        int howManyHold() {
            int many = 0;
            for (int s = 0; s < MANY; s++) {
                many += heldOn(s) == NONE ? 0 : 1;
            }
            return many;
        }

        private void put(int s, int what, int n) {
            if (s >= 0 && s < held.length && s < sizes.length) {
                held[s] = what;
                sizes[s] = n;
            }
        }

        void putNothing(int s) {
            put(s, NONE, 0);
        }

        void putLaw(int s, int law) {
            put(s, FIRST_LAW + law, 0);
        }

        void putRow(int s, int sort, int n) {
            put(s, sort, n);
            for (int i = 0; i < n; i++) {
                putElement(s, i, 0L);
            }
        }

        void putElement(int s, int i, long v) {
            int place = placeOf(s, i);
            if (place >= 0 && place < elements.length) {
                elements[place] = lowestBits(heldOn(s), v);
            }
        }

        long elementAt(int s, int i) {
            int place = placeOf(s, i);
            return place >= 0 && place < elements.length ? elements[place] : 0L;
        }

        /** NONE: there is no such element; so it is where no ROW is, whose size is 0. */
        private int placeOf(int s, int i) {
            return isWithin(i, 0, sizeOf(s) - 1) ? s * MOST_STEPS + i : NONE;
        }

        private static long lowestBits(int sort, long v) {
            switch (sort) {
                case 0:
                    return (byte) v;
                case 1:
                    return (short) v;
                case 2:
                    return (int) v;
                case BOOLEANS:
                    return v != 0 ? 1L : 0L;
                default:
                    return v;
            }
        }

        boolean hasElements(int s, int from, int n) {
            int size = sizeOf(s);
            return isWithin(from, 0, size) && isWithin(n, 0, size - from);
        }

        /** From the far end if a row's elements move up in itself: none is written over before it is read. */
        void copyElements(int p, int q, int i, int j, int n) {
            boolean backward = j > i;
            for (int k = 0; k < n; k++) {
                int at = backward ? n - 1 - k : k;
                putElement(q, j + at, elementAt(p, i + at));
            }
        }

        /** Bit i: element i is not 0. */
        long elementsAsBits(int s, int n) {
            long bits = 0;
            for (int i = 0; i < n; i++) {
                if (elementAt(s, i) != 0) {
                    bits |= 1L << i;
                }
            }
            return bits;
        }

        int firstWrong(int s, int n) {
            for (int i = 0; i < n; i++) {
                if (elementAt(s, i) != 0 && elementAt(s, i) != 1) {
                    return i;
                }
            }
            return NONE;
        }

        void clearLawsFrom(int laws) {
            for (int s = 0; s < MANY; s++) {
                if (lawOn(s) >= laws) {
                    putNothing(s);
                }
            }
        }
    }

    /** THE TAPE, and the token of it that is looked at; its end counts as a token, so that a FAULT may stand there. */
    private static final class Tape {
        static final int END = 0;
        static final int WORD = 1;
        static final int NUMBER = 2;
        static final int SIGN = 3;
        static final int STRANGE = 4;

        private static final int MOST = 250;

        private final int[] bytes = new int[MOST];
        private int size;
        private int token;
        private int tokenStart;
        private int tokenEnd;

        boolean hasRoom() {
            return size < MOST;
        }

        int add(int letter) {
            if (size >= 0 && size < bytes.length) {
                bytes[size] = letter;
                size++;
            }
            return size;
        }

        int byteAt(int i) {
            return i >= 0 && i < size && i < bytes.length ? bytes[i] : NONE;
        }

        void rewind() {
            tokenEnd = 0;
        }

        void nextToken() {
            tokenStart = tokenEnd;
            while (tokenStart < size && byteAt(tokenStart) == ' ') {
                tokenStart++;
            }
            token = tokenBegunBy(byteAt(tokenStart));
            tokenEnd = Math.min(tokenStart + 1, size);
            if (token == WORD || token == NUMBER) {
                while (tokenEnd < size && tokenBegunBy(byteAt(tokenEnd)) == token) {
                    tokenEnd++;
                }
            }
        }

        private static int tokenBegunBy(int letter) {
            if (letter >= 'a' && letter <= 'z') {
                return WORD;
            }
            if (letter >= '0' && letter <= '9') {
                return NUMBER;
            }
            if (letter == ';') {
                return SIGN;
            }
            return letter == NONE ? END : STRANGE;
        }

        int tokenLength() {
            return tokenEnd - tokenStart;
        }

        boolean isWord(String word) {
            if (token != WORD || tokenLength() != word.length()) {
                return false;
            }
            for (int i = 0; i < word.length(); i++) {
                if (byteAt(tokenStart + i) != word.charAt(i)) {
                    return false;
                }
            }
            return true;
        }
    }

    /**
     * Reads THE TAPE into a draft of the lake: what a fault ends is forgotten with the draft.
     * It stops at the first token that can't stand where it stands; the FAULT is that token's start.
     */
    private static final class LakeReader {
        private static final int MOST_DIGITS = 3;

        private final Tape tape = new Tape();
        private final Lake draft = new Lake();
        private int number;

        /** How many STATEMENTS; NONE: there is a FAULT. */
        int readLake() {
            tape.rewind();
            int statements = 0;
            do {
                tape.nextToken();
                if (!readStatement()) {
                    return NONE;
                }
                statements++;
                tape.nextToken();
            } while (tape.token == Tape.SIGN && statements < Tape.MOST);
            return tape.token == Tape.END ? statements : NONE;
        }

        private boolean readStatement() {
            if (tape.isWord("law")) {
                return readLaw();
            }
            if (tape.isWord("use")) {
                return readUse();
            }
            if (tape.isWord("depth")) {
                return readDepth();
            }
            if (tape.isWord("miss")) {
                return readMiss();
            }
            if (tape.isWord("ring")) {
                return readSteps();
            }
            if (tape.isWord("person")) {
                return readPerson();
            }
            if (tape.isWord("still")) {
                draft.clearRing();
                return true;
            }
            return false;
        }

        private boolean readLaw() {
            if (!draft.laws.hasRoom() || !readNumber(0, Laws.HOURS)) {
                return false;
            }
            int kind = number;
            if (!readNumber(0, MOST_A)) {
                return false;
            }
            draft.laws.add(kind, number);
            return true;
        }

        private boolean readUse() {
            if (!readNumber(0, draft.laws.count - 1)) {
                return false;
            }
            draft.inForce = number;
            return true;
        }

        private boolean readDepth() {
            if (!readNumber(0, MOST_DEPTH)) {
                return false;
            }
            draft.depth = number;
            return true;
        }

        private boolean readMiss() {
            if (!readNumber(0, MOST_MISS)) {
                return false;
            }
            draft.miss = number;
            return true;
        }

        private boolean readPerson() {
            if (!draft.people.hasRoom() || !readNumber(1, MOST_AGE)) {
                return false;
            }
            draft.people.add(number);
            return true;
        }

        private boolean readSteps() {
            if (!draft.hasRoom()) {
                return false;
            }
            tape.nextToken();
            if (tape.token != Tape.WORD || tape.tokenLength() > MOST_STEPS - draft.steps) {
                return false;
            }
            for (int i = tape.tokenStart; i < tape.tokenEnd; i++) {
                int letter = tape.byteAt(i);
                if (letter != 's' && letter != 'g') {
                    return false;
                }
                draft.addStep(letter == 's');
            }
            return true;
        }

        private boolean readNumber(int least, int most) {
            tape.nextToken();
            if (tape.token != Tape.NUMBER || tape.tokenLength() > MOST_DIGITS) {
                return false;
            }
            number = 0;
            for (int i = tape.tokenStart; i < tape.tokenEnd; i++) {
                number = 10 * number + tape.byteAt(i) - '0';
            }
            return isWithin(number, least, most);
        }
    }
}
