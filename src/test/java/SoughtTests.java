import java.util.function.Supplier;

/** Promises 46 to 49: rings that are looked for, and THE RING rung again and again. */
public final class SoughtTests {
    private static final Checks c = new Checks();
    private static final int MIN = Integer.MIN_VALUE;
    private static final int MAX = Integer.MAX_VALUE;
    private static final Supplier<AnsweredByTheDrowned> NEW = AnsweredByTheDrowned::new;
    private static final String GAPS = "g".repeat(40);

    public static void main(String[] args) {
        c.run(SoughtTests.class);
    }

    private static Supplier<AnsweredByTheDrowned> made(String text) {
        return Checks.made(text);
    }

    private interface Sought {
        int answer(AnsweredByTheDrowned x, int n, int bits);
    }

    /** Bits beyond n STEPS are BAD, too; without laws it is STUCK, but for what is BAD. */
    private static void boundsOfBits(String name, Sought sought) {
        int[][] bad = {{0, 0}, {-1, 0}, {13, 0}, {32, 0}, {33, 1}, {MIN, 0}, {MAX, 0}, {1, 2}, {1, -1}, {2, 4}, {2, -1},
            {11, 2048}, {12, 4096}, {12, -1}, {12, MIN}, {12, MAX}};
        for (int[] one : bad) {
            String call = name + "(" + one[0] + ", " + one[1] + ")";
            c.refused(call, Checks::some, x -> sought.answer(x, one[0], one[1]), -2);
            c.refused(call + " without laws", NEW, x -> sought.answer(x, one[0], one[1]), -2);
        }
        int[][] good = {{1, 0}, {1, 1}, {12, 0}, {12, 4095}};
        for (int[] one : good) {
            String call = name + "(" + one[0] + ", " + one[1] + ") without laws";
            c.refused(call, NEW, x -> sought.answer(x, one[0], one[1]), -5);
            c.refused(call + " of forty", made("ring " + GAPS), x -> sought.answer(x, one[0], one[1]), -5);
        }
    }

    // ---- 46: loudest

    private static void loudestIs(String text, int n, int k, int ring) {
        c.asks("loudest(" + n + ", " + k + ") of " + text, made(text), x -> x.loudest(n, k), ring);
    }

    private static void promise46MostHeard() {
        loudestIs("law 1 0; depth 1", 5, 2, 0b00011);
        loudestIs("law 0 0; depth 1; ring sssss", 4, 1, 0b0001);
        loudestIs("law 5 1; depth 0", 5, 2, 0b00110);
        loudestIs("law 0 0; law 1 0; use 1; depth 0", 3, 1, 0b001);
        // a gap at 0 is heard at 9: a stroke there leaves the last step silent
        loudestIs("law 0 0; depth 9", 10, 1, 0b10);
    }

    private static void promise46LeastOfSeveral() {
        loudestIs("law 1 0; depth 1", 3, 1, 0b001);
        loudestIs("law 0 0; depth 1", 4, 2, 0b0011);
        loudestIs("law 1 9; depth 9", 12, 5, 0b11111);
    }

    private static void promise46SmallestAndLargest() {
        loudestIs("law 1 0; depth 1", 1, 0, 0);
        loudestIs("law 1 0; depth 1", 1, 1, 1);
        loudestIs("law 1 0; depth 1", 12, 0, 0);
        loudestIs("law 1 0; depth 1", 12, 12, 4095);
        loudestIs("law 1 0; depth 1; ring " + GAPS, 3, 3, 0b111);
    }

    private static void promise46BadAheadOfStuck() {
        int[][] bad = {{0, 0}, {-1, 0}, {13, 0}, {MIN, 0}, {MAX, 0}, {1, 2}, {3, 4}, {12, 13}, {3, -1}, {3, MIN}, {3, MAX}};
        for (int[] one : bad) {
            String call = "loudest(" + one[0] + ", " + one[1] + ")";
            c.refused(call, Checks::some, x -> x.loudest(one[0], one[1]), -2);
            c.refused(call + " without laws", NEW, x -> x.loudest(one[0], one[1]), -2);
        }
        c.refused("loudest(1, 0) without laws", NEW, x -> x.loudest(1, 0), -5);
        c.refused("loudest(12, 12) without laws", made("ring s"), x -> x.loudest(12, 12), -5);
    }

    // ---- 47: plan

    private static void planIs(String text, int n, int bits, int ring) {
        c.asks("plan(" + n + ", " + bits + ") of " + text, made(text), x -> x.plan(n, bits), ring);
    }

    private static void promise47JustAtTheSteps() {
        planIs("law 0 0; law 1 0; use 1; ring gggg", 4, 0b1010, 0b0101);
        planIs("law 0 0; law 1 0; use 1; ring gggg", 4, 0, 0);
        planIs("law 0 0", 4, 0b1010, 0b0101);
        planIs("law 4 1", 3, 0b001, 0b010);
        planIs("law 5 0", 4, 0b0101, 0);
    }

    private static void promise47FewestStrokesThenLeastBits() {
        planIs("law 4 1", 3, 0, 0b001);
        planIs("law 2 1", 4, 0, 0b0101);
        planIs("law 4 1", 3, 0b100, 0b011);
        planIs("law 2 1", 3, 0, 0b010);
    }

    private static void promise47SmallestAndLargest() {
        planIs("law 1 0", 1, 0, 0);
        planIs("law 0 0", 1, 0, 1);
        planIs("law 0 0", 1, 1, 0);
        planIs("law 0 0", 12, 0, 4095);
        planIs("law 0 0", 12, 4095, 0);
        planIs("law 0 0", 12, 2048, 2047);
        planIs("law 1 9", 12, 0b110000000000, 0b11);
    }

    private static void promise47NoneIsNotRefused() {
        planIs("law 1 0", 4, 0b0001, -1);
        planIs("law 1 0", 1, 1, -1);
        planIs("law 5 0", 12, 0, -1);
        planIs("law 5 9", 12, 4095, -1);
    }

    private static void promise47BadAheadOfStuck() {
        boundsOfBits("plan", (x, n, bits) -> x.plan(n, bits));
    }

    // ---- 48: fill

    private static void fillIs(String text, int n, int bits, int ring) {
        c.asks("fill(" + n + ", " + bits + ") of " + text, made(text), x -> x.fill(n, bits), ring);
    }

    private static void promise48JustTheStepsAreHeard() {
        fillIs("law 0 0; law 1 0; use 1; depth 1", 5, 0b00101, 0b00001);
        fillIs("law 0 0; law 1 0; use 1; depth 1", 4, 0b1111, 0b0011);
        fillIs("law 1 0; depth 1; ring " + GAPS, 4, 0, 0);
        fillIs("law 0 0; depth 1", 3, 0b110, 0);
        fillIs("law 0 0; depth 1", 3, 0b101, 0b001);
    }

    private static void promise48FewestStrokesThenLeastBits() {
        // of 0b011 and 0b101, both heard all over
        fillIs("law 1 0; depth 0", 3, 0b111, 0b011);
        fillIs("law 1 9; depth 9", 3, 0b111, 0b111);
        fillIs("law 0 0; depth 2", 3, 0b100, 0);
    }

    private static void promise48SmallestAndLargest() {
        fillIs("law 1 0; depth 1", 1, 1, 1);
        fillIs("law 1 0; depth 1", 1, 0, 0);
        fillIs("law 0 0; depth 0", 12, 4095, 0);
        fillIs("law 1 0; depth 1", 12, 0, 0);
        fillIs("law 1 0; depth 9", 12, 2048, 2048);
        fillIs("law 1 0; depth 9", 12, 0b010000000001, 0b1);
    }

    private static void promise48NoneIsNotRefused() {
        fillIs("law 1 0; depth 1", 4, 0b0001, -1);
        fillIs("law 0 0; depth 0", 3, 0b011, -1);
        fillIs("law 0 0; depth 0", 1, 0, -1);
        fillIs("law 0 0; depth 0", 12, 0, -1);
    }

    private static void promise48BadAheadOfStuck() {
        boundsOfBits("fill", (x, n, bits) -> x.fill(n, bits));
    }

    // ---- 49: round

    private static void roundIs(String text, int time) {
        c.asks("round() of " + text, made(text), x -> x.round(), time);
    }

    private static void promise49FirstRepetitionAsTheOneBefore() {
        roundIs("law 0 0; ring sgg", 1);
        roundIs("law 1 9; ring sgsg", 1);
        roundIs("law 5 2; ring ssss", 1);
        roundIs("law 1 0; ring gs", 2);
        roundIs("law 4 2; ring gs", 2);
        roundIs("law 4 9; ring gss", 2);
        roundIs("law 2 2; ring gsgg", 2);
        // multiples of 11 fall into the repetitions 0, 2, 4, 6, 8 and 11: 9 and 10 have none
        roundIs("law 5 9; ring ggggg", 10);
    }

    private static void promise49OneStepAndForty() {
        roundIs("law 0 0; ring g", 1);
        roundIs("law 0 0; ring s", 1);
        roundIs("law 5 0; ring s", -1);
        roundIs("law 2 9; ring g", 1);
        roundIs("law 2 9; ring " + GAPS, 2);
        roundIs("law 5 3; ring " + GAPS, 1);
    }

    private static void promise49NoneIsNotRefused() {
        roundIs("law 4 1; ring gs", -1);
        roundIs("law 5 1; ring sssss", -1);
        roundIs("law 5 9; ring " + GAPS, -1);
    }

    private static void promise49StuckWithoutLawsOrSteps() {
        c.refused("round() without laws", made("ring s"), x -> x.round(), -5);
        c.refused("round() without steps", made("law 0 0"), x -> x.round(), -5);
        c.refused("round() of a new object", NEW, x -> x.round(), -5);
    }
}
