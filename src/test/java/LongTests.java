/** Runs of up to 512 calls on one object ("What it is"), each named after the promise that it asks most of. */
public final class LongTests {
    private static final Checks c = new Checks();
    private static final int CALLS = 512;

    public static void main(String[] args) {
        c.run(LongTests.class);
    }

    /** The SEED behind a DRAW, worked out in longs. */
    private static int seedBehind(int seed) {
        return (int) (seed * 1103515245L + 12345L);
    }

    private static int drawn(int seed, int below) {
        return (int) ((seed & 0xFFFFFFFFL) / 65536 % below);
    }

    private static void promise02RowsAgainAndAgain() {
        AnsweredByTheDrowned x = new AnsweredByTheDrowned();
        for (int i = 0; i < CALLS / 4; i++) {
            int s = i % 8;
            int sort = i % 5;
            int n = i % 40 + 1;
            c.due("row", x.row(s, sort, n), 1);
            c.due("a new element", x.element(s, n - 1), 0);
            c.due("set", x.set(s, n - 1, 1), 1);
            c.due("the element", x.element(s, n - 1), 1);
        }
    }

    private static void promise04AnElementGoesRound() {
        AnsweredByTheDrowned x = new AnsweredByTheDrowned();
        x.row(0, 3, 40);
        x.row(7, 3, 40);
        x.set(0, 0, -7);
        for (int i = 0; i < 169; i++) {
            c.due("copy to the other row", x.copy(0, 7, i % 40, 39 - i % 40, 1), 1);
            c.due("copy to the next place", x.copy(7, 0, 39 - i % 40, (i + 1) % 40, 1), 1);
            c.due("the element", x.element(0, (i + 1) % 40), -7);
        }
    }

    private static void promise09FullAgainAndAgain() {
        AnsweredByTheDrowned x = new AnsweredByTheDrowned();
        for (int i = 0; i < CALLS - 1; i++) {
            c.due("law " + i, x.law(i % 6, i % 10), i < 6 ? i : -6);
        }
        c.due("refusals", x.status(16), CALLS - 7);
    }

    private static void promise11EachAnswersTheOneAhead() {
        AnsweredByTheDrowned x = new AnsweredByTheDrowned();
        int depth = 2;
        int miss = 0;
        for (int i = 0; i < CALLS / 2; i++) {
            c.due("DEPTH", x.ask(0, i % 10), depth);
            c.due("MISS", x.ask(1, i % 101), miss);
            depth = i % 10;
            miss = i % 101;
        }
    }

    private static void promise13TapeFilledTwice() {
        AnsweredByTheDrowned x = new AnsweredByTheDrowned();
        for (int time = 0; time < 2; time++) {
            for (int i = 1; i <= 250; i++) {
                c.due("feed " + i, x.feed(i), i);
            }
            c.due("one more", x.feed(0), -6);
            c.due("wipe()", x.wipe(), 250);
        }
        for (int i = 1; i <= 8; i++) {
            c.due("feed " + i, x.feed(255), i);
        }
    }

    private static void promise15LakesOneBehindAnother() {
        AnsweredByTheDrowned x = new AnsweredByTheDrowned();
        for (int i = 0; i < 73; i++) {
            c.due("lake " + i, Checks.read(x, "ring s"), i < 40 ? 1 : -20);
        }
        c.due("steps", x.status(4), 40);
    }

    private static void promise15FaultsOneBehindAnother() {
        AnsweredByTheDrowned x = new AnsweredByTheDrowned();
        for (int i = 0; i < 102; i++) {
            c.due("lake " + i, Checks.read(x, "law0"), -24);
        }
        c.due("laws", x.status(0), 0);
        c.due("refusals", x.status(12), 102);
    }

    private static void promise19RingThatGrowsAndIsCut() {
        AnsweredByTheDrowned x = new AnsweredByTheDrowned();
        c.due("law(4, 1)", x.law(4, 1), 0);
        int strokes = 0;
        for (int t = 0; t < 40; t++) {
            boolean stroke = t % 3 == 1;
            int strikes = !stroke && strokes % 2 == 0 ? 1 : 0;
            c.due("ring at " + t, x.ring(stroke), strikes);
            for (int again = 0; again < 10; again++) {
                c.due("strikes(" + t + ")", x.strikes(t), strikes);
            }
            strokes += stroke ? 1 : 0;
        }
        for (int left = 39; left > 0; left--) {
            c.due("cut to " + left, x.cut(1), left);
        }
        c.due("the first", x.strikes(0), 1);
    }

    private static void promise54ReachedAgainAndAgain() {
        AnsweredByTheDrowned x = new AnsweredByTheDrowned();
        for (int i = 0; i < 9; i++) {
            x.person(Math.min(1 << i, 99));
        }
        for (int i = 0; i < CALLS - 9; i++) {
            // 1 to 64 add up to each number to 127; with one or two of 99, to 325
            c.due("reached(" + i + ")", x.reached(i), Math.min(i, 325) + 1);
        }
    }

    private static void promise61DrawsGoOn() {
        AnsweredByTheDrowned x = new AnsweredByTheDrowned();
        x.law(0, 0);
        x.ask(1, 50);
        int seed = 1;
        for (int i = 0; i < 255; i++) {
            seed = seedBehind(seed);
            c.due("ring " + i, x.ring(false), drawn(seed, 100) < 50 ? 0 : 1);
            c.due("cut " + i, x.cut(1), 0);
        }
    }

    private static void promise62DaysGoOn() {
        AnsweredByTheDrowned x = new AnsweredByTheDrowned();
        x.law(0, 0);
        x.ask(1, 10);
        int seed = 1;
        for (int day = 0; day < 170; day++) {
            int struck = 0;
            for (int t = 0; t < 40; t++) {
                seed = seedBehind(seed);
                if (drawn(seed, 2) == 0) {
                    seed = seedBehind(seed);
                    struck += drawn(seed, 100) < 10 ? 0 : 1;
                }
            }
            c.due("day " + day, x.days(40), struck);
            c.due("the seed behind day " + day, x.status(9), seed);
            c.due("still()", x.still(), 40);
        }
    }

    private static void promise67WrapsAroundAgainAndAgain() {
        AnsweredByTheDrowned x = new AnsweredByTheDrowned();
        int seed = 1;
        for (int i = 0; i < CALLS / 4; i++) {
            int other = Integer.MAX_VALUE - i;
            seed = seedBehind(seed);
            c.due("days(1)", x.days(1), 0);
            c.due("seed() behind it", x.seed(other), seed);
            c.due("seed() anew", x.seed(seed), other);
            c.due("still()", x.still(), 1);
        }
    }

    private static void promise69BackAgainAndAgain() {
        AnsweredByTheDrowned x = new AnsweredByTheDrowned();
        for (int i = 0; i < CALLS / 4; i++) {
            c.due("image()", x.image(), 1);
            c.due("days(40)", x.days(40), 0);
            c.due("back()", x.back(), 1);
            c.due("ring(true)", x.ring(true), i < 40 ? 0 : -6);
        }
    }

    private static void promise70RefusalsAreCountedOn() {
        AnsweredByTheDrowned x = new AnsweredByTheDrowned();
        int[] due = new int[5];
        for (int i = 0; i < (CALLS - 8) / 4; i++) {
            c.due("BAD", x.feed(-1), -2);
            c.due("NOTHING", x.fits(i % 8), -4);
            c.due("STUCK", x.flip(), -5);
            c.due("STUCK", x.oldest(), -5);
            due[0]++;
            due[2]++;
            due[3] += 2;
        }
        for (int i = 0; i < 5; i++) {
            c.due("status(" + (12 + i) + ")", x.status(12 + i), due[i]);
        }
    }
}
