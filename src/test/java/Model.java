import java.util.ArrayList;
import java.util.Arrays;
import java.util.Collections;
import java.util.HashMap;
import java.util.List;
import java.util.Map;
import java.util.TreeSet;

/**
 * The document once more, as slowly and as near to its words as can be, to be compared with the class:
 * rings are lists, laws are asked step by step, and what is looked for is found by trying everything.
 */
public final class Model {
    /** A call that is refused: the reason is what it answers. */
    static final class Refusal extends RuntimeException {
        private static final long serialVersionUID = 1L;
        final int why;

        Refusal(int why) {
            super(null, null, false, false);
            this.why = why;
        }
    }

    record Law(int kind, int a) { }

    /** A shelf: a ROW (sort, elements) or the number of a LAW (elements null). */
    record Held(int sort, long[] elements) { }

    record Image(List<Law> laws, List<Integer> ages, List<Boolean> ring, int inForce, int depth, int miss, int seed) { }

    private List<Law> laws = new ArrayList<>();
    private List<Integer> ages = new ArrayList<>();
    private List<Boolean> ring = new ArrayList<>();
    private int inForce;
    private int depth = 2;
    private int miss;
    private int seed = 1;
    private StringBuilder tape = new StringBuilder();
    private final Held[] shelves = new Held[8];
    private final Map<Integer, Integer> refusals = new HashMap<>();
    private Image image;

    void count(int why) {
        refusals.merge(why, 1, Integer::sum);
    }

    private static void unless(boolean fine, int why) {
        if (!fine) {
            throw new Refusal(why);
        }
    }

    private static boolean in(int v, int least, int most) {
        return least <= v && v <= most;
    }

    // what it does

    private static boolean strikes(Law law, List<Boolean> steps, int t) {
        int ahead = 0;
        boolean gap = !steps.get(t);
        switch (law.kind) {
            case 0:
                return gap;
            case 1:
                return t - (law.a + 1) >= 0 && steps.get(t - (law.a + 1));
            case 2:
                return gap && t >= law.a && !steps.subList(t - law.a, t).contains(true);
            case 3:
                return t - (law.a + 2) >= 0 && steps.get(t - (law.a + 2));
            case 4:
                for (int i = 0; i < t; i++) {
                    ahead += steps.get(i) ? 1 : 0;
                }
                return gap && ahead % (law.a + 1) == 0;
            default:
                return t % (law.a + 2) == 0;
        }
    }

    private static TreeSet<Integer> struck(Law law, List<Boolean> steps) {
        TreeSet<Integer> struck = new TreeSet<>();
        for (int t = 0; law != null && t < steps.size(); t++) {
            if (strikes(law, steps, t)) {
                struck.add(t);
            }
        }
        return struck;
    }

    private Law force() {
        return laws.isEmpty() ? null : laws.get(inForce);
    }

    private static TreeSet<Integer> sounds(Law law, int depth, List<Boolean> steps, int what) {
        TreeSet<Integer> struck = struck(law, steps);
        TreeSet<Integer> sounds = new TreeSet<>();
        for (int t = 0; t < steps.size(); t++) {
            boolean above = steps.get(t);
            boolean below = struck.contains(t - depth);
            if (what == 0 ? above || below : what == 1 ? above && below : !above && !below) {
                sounds.add(t);
            }
        }
        return sounds;
    }

    private TreeSet<Integer> sounds(int what) {
        return sounds(force(), depth, ring, what);
    }

    private static List<Boolean> ringOf(int n, int bits) {
        List<Boolean> steps = new ArrayList<>();
        for (int t = 0; t < n; t++) {
            steps.add((bits >> t) % 2 == 1);
        }
        return steps;
    }

    private static int bitsOf(Iterable<Integer> members) {
        int bits = 0;
        for (int member : members) {
            bits += 1 << member;
        }
        return bits;
    }

    private int asSet(int set, int members) {
        unless(set >= 0 && set < 1 << members, -2);
        return set;
    }

    private Law lawAt(int law) {
        unless(in(law, 0, laws.size() - 1), -2);
        return laws.get(law);
    }

    private void stepAt(int t) {
        unless(in(t, 0, ring.size() - 1), -2);
    }

    // shelves

    private void shelf(int s) {
        unless(in(s, 0, 7), -2);
    }

    private boolean holdsLaw(int s) {
        return shelves[s] != null && shelves[s].elements == null;
    }

    private long[] rowOn(int s) {
        shelf(s);
        unless(!holdsLaw(s), -3);
        unless(shelves[s] != null, -4);
        return shelves[s].elements;
    }

    public int row(int s, int sort, int n) {
        shelf(s);
        unless(in(sort, 0, 4) && in(n, 0, 40), -2);
        shelves[s] = new Held(sort, new long[n]);
        return 1;
    }

    public int set(int s, int i, long v) {
        long[] row = rowOn(s);
        unless(in(i, 0, row.length - 1), -2);
        long[] bySort = {(byte) v, (short) v, (int) v, v, v == 0 ? 0 : 1};
        row[i] = bySort[shelves[s].sort];
        return 1;
    }

    public int copy(int p, int q, int i, int j, int n) {
        shelf(p);
        shelf(q);
        unless(!holdsLaw(p) && !holdsLaw(q), -3);
        unless(shelves[p] == null || shelves[q] == null || shelves[p].sort == shelves[q].sort, -3);
        long[] from = rowOn(p);
        long[] to = rowOn(q);
        unless(n >= 0 && i >= 0 && j >= 0 && (long) i + n <= from.length && (long) j + n <= to.length, -2);
        long[] were = from.clone();
        for (int k = 0; k < n; k++) {
            to[j + k] = were[i + k];
        }
        return n;
    }

    public long element(int s, int i) {
        if (!in(s, 0, 7) || shelves[s] == null || shelves[s].elements == null) {
            return 0;
        }
        return in(i, 0, shelves[s].elements.length - 1) ? shelves[s].elements[i] : 0;
    }

    public int holds(int s) {
        if (!in(s, 0, 7) || shelves[s] == null) {
            return -1;
        }
        return holdsLaw(s) ? 10 + shelves[s].sort : shelves[s].sort;
    }

    public int show(int s, int law) {
        shelf(s);
        unless(in(law, -1, laws.size() - 1), -2);
        shelves[s] = law == -1 ? null : new Held(law, null);
        return 1;
    }

    public int says(int s, int kind) {
        shelf(s);
        unless(in(kind, 0, 5), -2);
        unless(shelves[s] == null || holdsLaw(s), -3);
        int[] above = {-1, 0, 0, 1, 2, 0};
        if (holdsLaw(s)) {
            int k = laws.get(shelves[s].sort).kind;
            while (k != -1 && k != kind) {
                k = above[k];
            }
            unless(k == kind, -3);
        }
        unless(shelves[s] != null, -4);
        Law law = laws.get(shelves[s].sort);
        if (kind == 0) {
            return law.a;
        }
        if (kind == 1 || kind == 3) {
            return law.kind == 3 ? law.a + 2 : law.a + 1;
        }
        return struck(law, ring).size();
    }

    // what there is

    public int law(int kind, int a) {
        unless(in(kind, 0, 5) && in(a, 0, 9), -2);
        unless(laws.size() < 6, -6);
        laws.add(new Law(kind, a));
        return laws.size() - 1;
    }

    public int use(int law) {
        lawAt(law);
        int ahead = inForce;
        inForce = law;
        return ahead;
    }

    public int ask(int what, int v) {
        unless(what == 0 && in(v, 0, 9) || what == 1 && in(v, 0, 100), -2);
        int was;
        if (what == 0) {
            was = depth;
            depth = v;
        } else {
            was = miss;
            miss = v;
        }
        return was;
    }

    public int person(int age) {
        unless(in(age, 1, 99), -2);
        unless(ages.size() < 10, -6);
        ages.add(age);
        return ages.size() - 1;
    }

    public int feed(int letter) {
        unless(in(letter, 0, 255), -2);
        unless(tape.length() < 250, -6);
        tape.append((char) letter);
        return tape.length();
    }

    public int wipe() {
        int size = tape.length();
        tape.setLength(0);
        return size;
    }

    /** THE TAPE cut into tokens by a pattern; what no token begins stands alone. */
    private static final java.util.regex.Pattern TOKEN = java.util.regex.Pattern.compile("[a-z]+|[0-9]+|;|[^ ]");

    public int lake() {
        String text = tape.toString();
        tape.setLength(0);
        List<String> tokens = new ArrayList<>();
        List<Integer> places = new ArrayList<>();
        java.util.regex.Matcher matcher = TOKEN.matcher(text);
        while (matcher.find()) {
            tokens.add(matcher.group());
            places.add(matcher.start());
        }
        tokens.add("");
        places.add(text.length());
        Image before = kept();
        int[] at = {0};
        int statements = 0;
        while (statement(tokens, at)) {
            statements++;
            if (tokens.get(at[0]).isEmpty()) {
                return statements;
            }
            if (!tokens.get(at[0]).equals(";")) {
                break;
            }
            at[0]++;
        }
        restore(before);
        count(-2);
        return -20 - places.get(at[0]);
    }

    /** at stays on the token that can't stand there. */
    private boolean statement(List<String> tokens, int[] at) {
        String word = tokens.get(at[0]);
        if (!List.of("law", "use", "depth", "miss", "ring", "person", "still").contains(word)
                || word.equals("law") && laws.size() == 6 || word.equals("person") && ages.size() == 10
                || word.equals("ring") && ring.size() == 40) {
            return false;
        }
        at[0]++;
        if (word.equals("still")) {
            ring.clear();
            return true;
        }
        String told = tokens.get(at[0]);
        if (word.equals("ring")) {
            if (!told.matches("[sg]+") || ring.size() + told.length() > 40) {
                return false;
            }
            told.chars().forEach(letter -> ring.add(letter == 's'));
            at[0]++;
            return true;
        }
        int[] most = {5, laws.size() - 1, 9, 100, 99};
        int which = List.of("law", "use", "depth", "miss", "person").indexOf(word);
        if (!isNumber(told, which == 4 ? 1 : 0, most[which])) {
            return false;
        }
        at[0]++;
        int number = Integer.parseInt(told);
        if (word.equals("law")) {
            if (!isNumber(tokens.get(at[0]), 0, 9)) {
                return false;
            }
            laws.add(new Law(number, Integer.parseInt(tokens.get(at[0]))));
            at[0]++;
        } else if (word.equals("use")) {
            inForce = number;
        } else if (word.equals("depth")) {
            depth = number;
        } else if (word.equals("miss")) {
            miss = number;
        } else {
            ages.add(number);
        }
        return true;
    }

    private static boolean isNumber(String token, int least, int most) {
        return token.matches("[0-9]{1,3}") && in(Integer.parseInt(token), least, most);
    }

    public int lawOf(int law, int what) {
        unless(in(law, 0, laws.size() - 1) && in(what, 0, 1), -2);
        return what == 0 ? laws.get(law).kind : laws.get(law).a;
    }

    public int age(int person) {
        unless(in(person, 0, ages.size() - 1), -2);
        return ages.get(person);
    }

    // what is heard

    public int step(int t) {
        stepAt(t);
        return ring.get(t) ? 1 : 0;
    }

    public int strikes(int t) {
        stepAt(t);
        unless(force() != null, -5);
        return strikes(force(), ring, t) ? 1 : 0;
    }

    public int strikesBy(int law, int t) {
        lawAt(law);
        stepAt(t);
        return strikes(laws.get(law), ring, t) ? 1 : 0;
    }

    public int heard(int t, int what) {
        stepAt(t);
        unless(in(what, 0, 2), -2);
        return sounds(what).contains(t) ? 1 : 0;
    }

    public int all(int what) {
        unless(in(what, 0, 2), -2);
        return sounds(what).size();
    }

    public int silent(int from) {
        stepAt(from);
        Integer first = sounds(2).ceiling(from);
        return first == null ? -1 : first;
    }

    public int run(int what) {
        unless(in(what, 0, 2), -2);
        StringBuilder text = new StringBuilder();
        for (int t = 0; t < ring.size(); t++) {
            boolean is = what == 2 ? sounds(2).contains(t) : ring.get(t) == (what == 0);
            text.append(is ? 'x' : ' ');
        }
        int longest = 0;
        for (String part : text.toString().split(" ")) {
            longest = Math.max(longest, part.length());
        }
        return longest;
    }

    private List<TreeSet<Integer>> repetitions(int last) {
        List<Boolean> longer = new ArrayList<>();
        for (int i = 0; i <= last; i++) {
            longer.addAll(ring);
        }
        TreeSet<Integer> struck = struck(force(), longer);
        List<TreeSet<Integer>> patterns = new ArrayList<>();
        for (int i = 0; i <= last; i++) {
            TreeSet<Integer> pattern = new TreeSet<>();
            for (int t = 0; t < ring.size(); t++) {
                if (struck.contains(i * ring.size() + t)) {
                    pattern.add(t);
                }
            }
            patterns.add(pattern);
        }
        return patterns;
    }

    public int loop(int time) {
        unless(in(time, 0, 60), -2);
        unless(force() != null, -5);
        return repetitions(time).get(time).size();
    }

    public int period() {
        for (int p = 1; p < ring.size(); p++) {
            boolean repeats = true;
            for (int t = p; t < ring.size(); t++) {
                repeats &= ring.get(t).equals(ring.get(t - p));
            }
            if (repeats) {
                return p;
            }
        }
        return ring.size();
    }

    private static List<Boolean> reversed(List<Boolean> steps) {
        List<Boolean> reversed = new ArrayList<>(steps);
        Collections.reverse(reversed);
        return reversed;
    }

    public int mirror() {
        return reversed(ring).equals(ring) ? 1 : 0;
    }

    public int lastStroke() {
        return ring.lastIndexOf(true);
    }

    public int shift(int from) {
        stepAt(from);
        List<Boolean> shifted = new ArrayList<>(ring.subList(from, ring.size()));
        shifted.addAll(ring.subList(0, from));
        return struck(force(), shifted).size();
    }

    public int flip() {
        unless(!ring.isEmpty(), -5);
        List<Integer> loud = new ArrayList<>();
        for (int t = 0; t < ring.size(); t++) {
            List<Boolean> other = new ArrayList<>(ring);
            other.set(t, !ring.get(t));
            loud.add(sounds(force(), depth, other, 0).size());
        }
        return loud.indexOf(Collections.max(loud));
    }

    public int until(int v) {
        unless(in(v, 0, 40), -2);
        for (int n = 0; n <= ring.size(); n++) {
            if (struck(force(), ring.subList(0, n)).size() == v) {
                return n;
            }
        }
        return -1;
    }

    // laws beside one another

    public int sameAs(int law) {
        lawAt(law);
        int same = 0;
        for (int i = 0; i < laws.size(); i++) {
            same += struck(laws.get(i), ring).equals(struck(laws.get(law), ring)) ? 1 << i : 0;
        }
        return same;
    }

    public int apart(int law, int other) {
        lawAt(law);
        lawAt(other);
        unless(law != other, -2);
        for (int t = 0; t < ring.size(); t++) {
            if (strikes(laws.get(law), ring, t) != strikes(laws.get(other), ring, t)) {
                return t;
            }
        }
        return -1;
    }

    public int parts(int law, int other, int what) {
        lawAt(law);
        lawAt(other);
        unless(law != other && in(what, 0, 1), -2);
        for (int n = 1; n <= 12; n++) {
            for (int bits = 0; bits < 1 << n; bits++) {
                if (!struck(laws.get(law), ringOf(n, bits)).equals(struck(laws.get(other), ringOf(n, bits)))) {
                    return what == 0 ? n : bits;
                }
            }
        }
        return -1;
    }

    private List<Law> told(int set) {
        List<Law> told = new ArrayList<>();
        for (int i = 0; i < laws.size(); i++) {
            if ((set >> i) % 2 == 1) {
                told.add(laws.get(i));
            }
        }
        return told;
    }

    public int common(int set) {
        asSet(set, laws.size());
        int common = 0;
        for (int t = 0; t < ring.size(); t++) {
            int at = t;
            common += told(set).stream().allMatch(law -> strikes(law, ring, at)) ? 1 : 0;
        }
        return common;
    }

    public int alone(int law) {
        lawAt(law);
        int alone = 0;
        for (int t = 0; t < ring.size(); t++) {
            int at = t;
            boolean strikes = strikes(laws.get(law), ring, t);
            alone += strikes && laws.stream().filter(other -> strikes(other, ring, at)).count() == 1 ? 1 : 0;
        }
        return alone;
    }

    public int busiest() {
        unless(!laws.isEmpty(), -5);
        List<Integer> often = new ArrayList<>();
        laws.forEach(law -> often.add(struck(law, ring).size()));
        return often.indexOf(Collections.max(often));
    }

    public int lawFor(int n, int bits) {
        tried(n, bits);
        int best = -1;
        for (int i = 0; i < laws.size(); i++) {
            int plan = planBy(laws.get(i), n, bits);
            if (plan != -1 && (best == -1
                    || Integer.bitCount(plan) < Integer.bitCount(planBy(laws.get(best), n, bits)))) {
                best = i;
            }
        }
        return best;
    }

    // what was told

    private TreeSet<Integer> heardBy(int s) {
        long[] row = rowOn(s);
        unless(row.length >= ring.size(), -2);
        TreeSet<Integer> told = new TreeSet<>();
        for (int t = 0; t < ring.size(); t++) {
            if (row[t] != 0) {
                told.add(t);
            }
        }
        return told;
    }

    public int depths(int s) {
        TreeSet<Integer> told = heardBy(s);
        int depths = 0;
        for (int d = 0; d <= 9; d++) {
            depths += sounds(force(), d, ring, 0).equals(told) ? 1 << d : 0;
        }
        return depths;
    }

    public int differs(int s) {
        TreeSet<Integer> told = heardBy(s);
        int differs = 0;
        for (int t = 0; t < ring.size(); t++) {
            differs += told.contains(t) != sounds(0).contains(t) ? 1 : 0;
        }
        return differs;
    }

    public int together() {
        List<Integer> both = new ArrayList<>();
        for (int d = 0; d <= 9; d++) {
            both.add(sounds(force(), d, ring, 1).size());
        }
        return both.indexOf(Collections.max(both));
    }

    public int odds() {
        long odds = 1000000;
        for (int i = 0; i < struck(force(), ring).size(); i++) {
            odds = odds * (100 - miss) / 100;
        }
        return (int) odds;
    }

    public int expected() {
        return 10 * struck(force(), ring).size() * (100 - miss);
    }

    public int fits(int s) {
        TreeSet<Integer> told = heardBy(s);
        int fits = 0;
        for (int i = 0; i < laws.size(); i++) {
            fits += sounds(laws.get(i), depth, ring, 0).equals(told) ? 1 << i : 0;
        }
        return fits;
    }

    public int next(int set, int what) {
        asSet(set, laws.size());
        unless(in(what, 0, 1), -2);
        unless(ring.size() < 40, -6);
        int[] parted = new int[2];
        for (int stroke = 0; stroke < 2; stroke++) {
            List<Boolean> longer = new ArrayList<>(ring);
            longer.add(stroke == 1);
            long striking = told(set).stream().filter(law -> strikes(law, longer, ring.size())).count();
            parted[stroke] = (int) Math.min(striking, told(set).size() - striking);
        }
        int best = parted[1] > parted[0] ? 1 : 0;
        return what == 0 ? best : parted[best];
    }

    // rings that are looked for

    private interface Wanted {
        boolean is(List<Boolean> steps);
    }

    private static int least(int n, Wanted wanted) {
        int best = -1;
        for (int bits = (1 << n) - 1; bits >= 0; bits--) {
            if ((best == -1 || Integer.bitCount(bits) <= Integer.bitCount(best)) && wanted.is(ringOf(n, bits))) {
                best = bits;
            }
        }
        return best;
    }

    private void tried(int n, int bits) {
        unless(in(n, 1, 12) && in(bits, 0, (1 << n) - 1), -2);
    }

    private static int planBy(Law law, int n, int bits) {
        return least(n, steps -> bitsOf(struck(law, steps)) == bits);
    }

    public int loudest(int n, int k) {
        unless(in(n, 1, 12) && in(k, 0, n), -2);
        unless(force() != null, -5);
        int best = -1;
        int most = -1;
        for (int bits = (1 << n) - 1; bits >= 0; bits--) {
            if (Integer.bitCount(bits) == k) {
                int loud = sounds(force(), depth, ringOf(n, bits), 0).size();
                if (loud >= most) {
                    best = bits;
                    most = loud;
                }
            }
        }
        return best;
    }

    public int plan(int n, int bits) {
        tried(n, bits);
        unless(force() != null, -5);
        return planBy(force(), n, bits);
    }

    public int fill(int n, int bits) {
        tried(n, bits);
        unless(force() != null, -5);
        return least(n, steps -> bitsOf(sounds(force(), depth, steps, 0)) == bits);
    }

    public int round() {
        unless(force() != null && !ring.isEmpty(), -5);
        List<TreeSet<Integer>> patterns = repetitions(60);
        for (int i = 1; i <= 60; i++) {
            if (patterns.get(i).equals(patterns.get(i - 1))) {
                return i;
            }
        }
        return -1;
    }

    // days and people

    public int day(int m, int r, int n, int q) {
        unless(in(m, 1, 99) && in(n, 1, 99) && in(r, 0, m - 1) && in(q, 0, n - 1), -2);
        for (int day = r; day <= 9999; day += m) {
            if (day % n == q) {
                return day;
            }
        }
        return -1;
    }

    private List<Integer> sets(int n) {
        List<Integer> sets = new ArrayList<>();
        for (int set = 0; set < 1 << ages.size(); set++) {
            if (sumOf(set) == n) {
                sets.add(set);
            }
        }
        return sets;
    }

    private int sumOf(int set) {
        int sum = 0;
        for (int i = 0; i < ages.size(); i++) {
            sum += (set >> i) % 2 * ages.get(i);
        }
        return sum;
    }

    public int tolls(int n, int what) {
        unless(in(n, 0, 999) && in(what, 0, 1), -2);
        List<Integer> sets = sets(n);
        if (what == 0) {
            return sets.size();
        }
        sets.sort((p, q) -> Integer.compare(Integer.bitCount(p) * 1024 + p, Integer.bitCount(q) * 1024 + q));
        return sets.isEmpty() ? -1 : sets.get(0);
    }

    public int meet(int m, int n) {
        unless(in(m, 1, 99) && in(n, 1, 99), -2);
        int day = m;
        while (day % n != 0) {
            day += m;
        }
        return day;
    }

    public int sum(int set) {
        return sumOf(asSet(set, ages.size()));
    }

    public int reached(int n) {
        unless(in(n, 0, 999), -2);
        TreeSet<Integer> sums = new TreeSet<>();
        for (int set = 0; set < 1 << ages.size(); set++) {
            sums.add(sumOf(set));
        }
        return sums.headSet(n, true).size();
    }

    public int halves() {
        List<Integer> off = new ArrayList<>();
        for (int set = 0; set < 1 << ages.size(); set++) {
            off.add(Math.abs(sumOf((1 << ages.size()) - 1 - set) - sumOf(set)));
        }
        return off.indexOf(Collections.min(off));
    }

    public int ranked(int i) {
        unless(in(i, 0, ages.size() - 1), -2);
        List<Integer> ranked = new ArrayList<>();
        for (int person = 0; person < ages.size(); person++) {
            ranked.add(person);
        }
        ranked.sort((p, q) -> Integer.compare(ages.get(p), ages.get(q)));
        return ranked.get(i);
    }

    public int oldest() {
        unless(!ages.isEmpty(), -5);
        return ages.indexOf(Collections.max(ages));
    }

    // told rings

    private long[] toldRow(int s, int n) {
        shelf(s);
        unless(in(n, 0, 40), -2);
        long[] row = rowOn(s);
        unless(row.length >= n, -2);
        return Arrays.copyOf(row, n);
    }

    private static int wrong(long[] row) {
        for (int i = 0; i < row.length; i++) {
            if (row[i] != 0 && row[i] != 1) {
                return i;
            }
        }
        return -1;
    }

    private List<Boolean> toldRing(int s, int n) {
        long[] row = toldRow(s, n);
        unless(wrong(row) == -1, -5);
        List<Boolean> steps = new ArrayList<>();
        for (long element : row) {
            steps.add(element == 1);
        }
        return steps;
    }

    public int judge(int s, int n) {
        return wrong(toldRow(s, n));
    }

    public int answers(int s, int n, int what) {
        unless(in(what, 0, 2), -2);
        List<Boolean> steps = toldRing(s, n);
        return what == 0 ? struck(force(), steps).size() : sounds(force(), depth, steps, what).size();
    }

    public int rings(int s, int n) {
        ring = toldRing(s, n);
        return n;
    }

    // in truth

    private int draw(int n) {
        seed = seed * 1103515245 + 12345;
        return (seed >>> 16) % n;
    }

    public int ring(boolean stroke) {
        unless(ring.size() < 40, -6);
        ring.add(stroke);
        boolean would = force() != null && strikes(force(), ring, ring.size() - 1);
        return would && draw(100) >= miss ? 1 : 0;
    }

    public int days(int n) {
        unless(in(n, 1, 40), -2);
        int struck = 0;
        for (int i = Math.min(n, 40 - ring.size()); i > 0; i--) {
            struck += ring(draw(2) == 1);
        }
        return struck;
    }

    public int turn() {
        ring = reversed(ring);
        return struck(force(), ring).size();
    }

    public int change(int t) {
        stepAt(t);
        ring.set(t, !ring.get(t));
        return ring.get(t) ? 1 : 0;
    }

    public int cut(int n) {
        unless(in(n, 1, 40), -2);
        unless(n <= ring.size(), -5);
        ring = new ArrayList<>(ring.subList(0, ring.size() - n));
        return ring.size();
    }

    public int still() {
        int steps = ring.size();
        ring.clear();
        return steps;
    }

    public int seed(int v) {
        int ahead = seed;
        seed = v;
        return ahead;
    }

    // keeping

    private Image kept() {
        return new Image(List.copyOf(laws), List.copyOf(ages), List.copyOf(ring), inForce, depth, miss, seed);
    }

    private void restore(Image from) {
        laws = new ArrayList<>(from.laws);
        ages = new ArrayList<>(from.ages);
        ring = new ArrayList<>(from.ring);
        inForce = from.inForce;
        depth = from.depth;
        miss = from.miss;
        seed = from.seed;
    }

    public int image() {
        image = kept();
        return 1;
    }

    public int back() {
        unless(image != null, -5);
        restore(image);
        for (int s = 0; s < 8; s++) {
            if (holdsLaw(s) && shelves[s].sort >= laws.size()) {
                shelves[s] = null;
            }
        }
        return 1;
    }

    public int status(int what) {
        int[] first = {laws.size(), inForce, depth, miss, ring.size(), Collections.frequency(ring, true), ages.size(),
            sumOf((1 << ages.size()) - 1), tape.length(), seed,
            (int) Arrays.stream(shelves).filter(held -> held != null).count()};
        if (in(what, 0, 10)) {
            return first[what];
        }
        return in(what, 12, 16) ? refusals.getOrDefault(10 - what, 0) : -1;
    }
}
