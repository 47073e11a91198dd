import java.util.function.Supplier;

/** Promises 58 to 67: told rings, THE RING in truth, and the SEED. */
public final class TruthTests {
    private static final Checks c = new Checks();
    private static final int MIN = Integer.MIN_VALUE;
    private static final int MAX = Integer.MAX_VALUE;
    private static final Supplier<AnsweredByTheDrowned> NEW = AnsweredByTheDrowned::new;
    private static final String FORTY = Checks.FORTY;
    private static final String GAPS = "g".repeat(40);
    private static final String STROKES = "s".repeat(40);

    /** What the SEED is behind a DRAW, and what the DRAW is below 100; from 1, and from others that are an edge. */
    private static final int BEHIND_ONE = 1103527590;
    private static final int DRAWS_0 = 0;
    private static final int DRAWS_1 = 23;
    private static final int DRAWS_99 = 116;
    private static final int UPPER_BITS_32767 = -1861048701;
    private static final int UPPER_BITS_32768 = 2088216195;
    private static final int UPPER_BITS_65535 = 286434947;

    public static void main(String[] args) {
        c.run(TruthTests.class);
    }

    private static Supplier<AnsweredByTheDrowned> made(String text) {
        return Checks.made(text);
    }

    private static AnsweredByTheDrowned told(String text, long... elements) {
        return Checks.told(text, elements);
    }

    // ---- the refusals of judge, answers and rings

    /** SHELF 0 is WRONG at 1, 1 a LAW, 2 NOTHING, 3 has no elements, 4 forty, WRONG at the last. */
    private static AnsweredByTheDrowned wrong() {
        AnsweredByTheDrowned x = told("law 0 0; ring sgg", 1, 2, 0);
        x.show(1, 0);
        x.row(3, 0, 0);
        x.row(4, 0, 40);
        x.set(4, 39, 2);
        return x;
    }

    private interface Telling {
        int answer(AnsweredByTheDrowned x, int s, int n);
    }

    private static void toldRefused(String name, Telling telling) {
        int[][] cases = {{-1, 1, -2}, {8, 1, -2}, {-1, 0, -2}, {8, 0, -2}, {MIN, 1, -2},
            {MAX, 1, -2}, {0, -1, -2}, {0, 41, -2}, {4, 41, -2}, {0, MIN, -2}, {0, MAX, -2}, {1, -1, -2}, {1, 41, -2},
            {2, -1, -2}, {2, 41, -2}, {1, 0, -3}, {1, 1, -3}, {1, 40, -3}, {2, 0, -4}, {2, 1, -4}, {2, 40, -4},
            {0, 4, -2}, {0, 40, -2}, {3, 1, -2}};
        for (int[] one : cases) {
            String call = name + "(" + one[0] + ", " + one[1] + ")";
            c.refused(call, TruthTests::wrong, x -> telling.answer(x, one[0], one[1]), one[2]);
        }
    }

    private static void stuckIfWrong(String name, Telling telling) {
        c.refused(name + "(0, 2)", TruthTests::wrong, x -> telling.answer(x, 0, 2), -5);
        c.refused(name + "(0, 3)", TruthTests::wrong, x -> telling.answer(x, 0, 3), -5);
        c.refused(name + "(4, 40)", TruthTests::wrong, x -> telling.answer(x, 4, 40), -5);
    }

    // ---- 58: judge

    private static void promise58FirstWrong() {
        Supplier<AnsweredByTheDrowned> made = () -> told("", 1, 0, 2, 1, -1);
        c.asks("judge(0, 5)", made, x -> x.judge(0, 5), 2);
        c.asks("judge(0, 3)", made, x -> x.judge(0, 3), 2);
        c.asks("the first element", () -> told("", -1, 3), x -> x.judge(0, 2), 0);
        c.asks("the last of forty", TruthTests::wrong, x -> x.judge(4, 40), 39);
    }

    private static void promise58NoneIsNotRefused() {
        Supplier<AnsweredByTheDrowned> made = () -> told("", 1, 0, 2, 1, -1);
        c.asks("judge(0, 2)", made, x -> x.judge(0, 2), -1);
        c.asks("judge(0, 0)", made, x -> x.judge(0, 0), -1);
        c.asks("judge(3, 0) of no elements", TruthTests::wrong, x -> x.judge(3, 0), -1);
        c.asks("judge(4, 39), right but for the last", TruthTests::wrong, x -> x.judge(4, 39), -1);
    }

    private static void promise58EachSort() {
        AnsweredByTheDrowned x = new AnsweredByTheDrowned();
        for (int sort = 0; sort <= 4; sort++) {
            x.row(0, sort, 40);
            c.due("zeros of sort " + sort, x.judge(0, 40), -1);
            x.set(0, 39, 1);
            c.due("a one of sort " + sort, x.judge(0, 40), -1);
            x.set(0, 39, 77);
            c.due("another of sort " + sort, x.judge(0, 40), sort == 4 ? -1 : 39);
            x.set(0, 39, 1L << 32);
            c.due("one of the higher bits of sort " + sort, x.judge(0, 40), sort == 3 ? 39 : -1);
        }
    }

    private static void promise58Refused() {
        toldRefused("judge", (x, s, n) -> x.judge(s, n));
    }

    // ---- 59: answers

    private static void promise59StrikesBothSilent() {
        Supplier<AnsweredByTheDrowned> made = () -> told("law 0 0; depth 1; ring ss", 1, 0, 1, 0, 0, 9);
        c.asks("how often it strikes", made, x -> x.answers(0, 5, 0), 3);
        c.asks("both", made, x -> x.answers(0, 5, 1), 1);
        c.asks("silent", made, x -> x.answers(0, 5, 2), 2);
        c.asks("of fewer", made, x -> x.answers(0, 2, 0), 1);
        Supplier<AnsweredByTheDrowned> hours = () -> told("law 0 0; law 5 0; use 1", 1, 0, 1, 0, 0);
        c.asks("by the one IN FORCE", hours, x -> x.answers(0, 5, 0), 3);
        c.asks("by the one IN FORCE, of four", hours, x -> x.answers(0, 4, 0), 2);
    }

    private static void promise59NoneAndAllForty() {
        for (int what = 0; what <= 2; what++) {
            int asked = what;
            c.asks("answers(0, 0, " + what + ")", () -> told("law 5 0; ring s", 1), x -> x.answers(0, 0, asked), 0);
            c.asks("no elements, " + what, () -> told("law 5 0; ring s"), x -> x.answers(0, 0, asked), 0);
        }
        Supplier<AnsweredByTheDrowned> forty = () -> told("law 0 0; depth 9; ring s", new long[40]);
        c.asks("forty gaps", forty, x -> x.answers(0, 40, 0), 40);
        c.asks("both of forty", forty, x -> x.answers(0, 40, 1), 0);
        c.asks("silent of forty", forty, x -> x.answers(0, 40, 2), 9);
    }

    private static void promise59WithoutLaws() {
        Supplier<AnsweredByTheDrowned> made = () -> told("depth 0", 1, 0);
        c.asks("strikes", made, x -> x.answers(0, 2, 0), 0);
        c.asks("both", made, x -> x.answers(0, 2, 1), 0);
        c.asks("silent", made, x -> x.answers(0, 2, 2), 1);
    }

    private static void promise59WrongBehindWhatIsTold() {
        c.asks("answers(0, 1, 2)", TruthTests::wrong, x -> x.answers(0, 1, 2), 0);
        c.asks("answers(4, 39, 0)", TruthTests::wrong, x -> x.answers(4, 39, 0), 39);
    }

    private static void promise59Refused() {
        for (int what = 0; what <= 2; what++) {
            int asked = what;
            toldRefused("answers " + what, (x, s, n) -> x.answers(s, n, asked));
            stuckIfWrong("answers " + what, (x, s, n) -> x.answers(s, n, asked));
        }
    }

    private static void promise59BadWhatAheadOfAll() {
        for (int what : new int[] {-1, 3, MIN, MAX}) {
            for (int s = 0; s <= 2; s++) {
                int shelf = s;
                c.refused("answers(" + s + ", 1, " + what + ")", TruthTests::wrong, x -> x.answers(shelf, 1, what), -2);
            }
            c.refused("answers(0, 3, " + what + ") of a wrong one", TruthTests::wrong, x -> x.answers(0, 3, what), -2);
        }
    }

    // ---- 60: rings

    private static void promise60FromNowOn() {
        AnsweredByTheDrowned x = told("law 0 0; ring sssss", 0, 1, 1, 2);
        c.due("rings(0, 3)", x.rings(0, 3), 3);
        c.due("status(4)", x.status(4), 3);
        c.due("steps", Checks.bits(3, x::step), 0b110);
        c.due("step(3)", x.step(3), -2);
        c.due("the seed is as it was", x.status(9), 1);
        x.set(0, 0, 1);
        c.due("a step when the row has changed", x.step(0), 0);
        c.due("ring(true) behind it", x.ring(true), 0);
        c.due("status(4)", x.status(4), 4);
    }

    private static void promise60NoneAndAllForty() {
        AnsweredByTheDrowned x = told("ring " + STROKES, 1);
        c.due("rings(0, 0)", x.rings(0, 0), 0);
        c.due("status(4)", x.status(4), 0);
        c.due("status(5)", x.status(5), 0);
        x.row(1, 4, 40);
        x.set(1, 0, 1);
        x.set(1, 39, 1);
        c.due("rings(1, 40)", x.rings(1, 40), 40);
        c.due("steps", Checks.bits(40, x::step), 1L << 39 | 1);
        c.due("rings(1, 40) of forty", x.rings(1, 40), 40);
        c.due("ring(true) behind it", x.ring(true), -6);
        c.due("rings(1, 39)", x.rings(1, 39), 39);
        c.due("lastStroke()", x.lastStroke(), 0);
        x.row(2, 0, 0);
        c.due("rings(2, 0) of no elements", x.rings(2, 0), 0);
    }

    private static void promise60WrongBehindWhatIsTold() {
        AnsweredByTheDrowned x = wrong();
        c.due("rings(4, 39)", x.rings(4, 39), 39);
        c.due("rings(0, 1)", x.rings(0, 1), 1);
        c.due("steps", x.step(0), 1);
    }

    private static void promise60Refused() {
        toldRefused("rings", (x, s, n) -> x.rings(s, n));
        stuckIfWrong("rings", (x, s, n) -> x.rings(s, n));
    }

    // ---- 61: ring

    private static void promise61StrikesOrNot() {
        AnsweredByTheDrowned x = Checks.of("law 0 0; law 1 0; ring s; use 1");
        c.due("ring(true) by an echo", x.ring(true), 1);
        c.due("ring(false) by an echo", x.ring(false), 1);
        c.due("ring(false) behind a gap", x.ring(false), 0);
        c.due("steps", Checks.bits(4, x::step), 0b0011);
        AnsweredByTheDrowned y = Checks.of("law 5 0");
        c.due("ring(true) at 0", y.ring(true), 1);
        c.due("ring(false) at 1", y.ring(false), 0);
        c.due("ring(false) at 2", y.ring(false), 1);
    }

    private static void promise61DrawOnlyIfItWouldStrike() {
        AnsweredByTheDrowned x = Checks.of("law 0 0; miss 38");
        c.due("ring(true)", x.ring(true), 0);
        c.due("no draw for a stroke", x.status(9), 1);
        c.due("ring(false) by a draw of 38", x.ring(false), 1);
        c.due("a draw", x.status(9), BEHIND_ONE);
        c.due("ring(false) by a draw of 26", x.ring(false), 0);
        c.due("a draw", x.status(9), -1770082073);
        c.due("steps", Checks.bits(3, x::step), 0b001);
        AnsweredByTheDrowned y = Checks.of("ring s; miss 100");
        c.due("ring(false) without laws", y.ring(false), 0);
        c.due("no draw without laws", y.status(9), 1);
        AnsweredByTheDrowned z = Checks.of("law 0 0");
        c.due("ring(false), miss 0", z.ring(false), 1);
        c.due("a draw, miss 0", z.status(9), BEHIND_ONE);
        AnsweredByTheDrowned w = Checks.of("law 0 0; miss 100");
        c.due("ring(false), miss 100", w.ring(false), 0);
        c.due("a draw, miss 100", w.status(9), BEHIND_ONE);
    }

    private static void missed(int seed, int miss, int answer) {
        AnsweredByTheDrowned x = Checks.of("law 0 0; miss " + miss);
        x.seed(seed);
        c.due("ring(false), seed " + seed + ", miss " + miss, x.ring(false), answer);
        c.due("the step is there all the same", x.status(4), 1);
        c.due("strikes(0), missed or not", x.strikes(0), 1);
    }

    private static void promise61MissedIfTheDrawIsBelowMiss() {
        missed(DRAWS_0, 0, 1);
        missed(DRAWS_0, 1, 0);
        missed(DRAWS_1, 1, 1);
        missed(DRAWS_1, 2, 0);
        missed(1, 38, 1);
        missed(1, 39, 0);
        missed(DRAWS_99, 99, 1);
        missed(DRAWS_99, 100, 0);
    }

    private static void promise61UpperBitsHaveNoSign() {
        missed(UPPER_BITS_32767, 67, 1);
        missed(UPPER_BITS_32767, 68, 0);
        missed(UPPER_BITS_32768, 68, 1);
        missed(UPPER_BITS_32768, 69, 0);
        missed(UPPER_BITS_65535, 35, 1);
        missed(UPPER_BITS_65535, 36, 0);
    }

    private static void promise61FullOfForty() {
        AnsweredByTheDrowned x = Checks.of("law 0 0; ring " + GAPS.substring(1));
        c.due("the fortieth", x.ring(false), 1);
        c.due("status(4)", x.status(4), 40);
        c.due("status(9)", x.status(9), BEHIND_ONE);
        c.refused("ring(false) of forty", made("law 0 0; ring " + FORTY), y -> y.ring(false), -6);
        c.refused("ring(true) of forty", made("law 5 0; ring " + FORTY), y -> y.ring(true), -6);
        c.refused("ring(true) of forty without laws", made("ring " + FORTY), y -> y.ring(true), -6);
    }

    // ---- 62: days

    private static void promise62StrokesByDraws() {
        // draws below 2 from 1: 0, 0, 1, 1, 1, 1, 0, 1
        AnsweredByTheDrowned x = new AnsweredByTheDrowned();
        c.due("days(8) without laws", x.days(8), 0);
        c.due("steps", Checks.bits(8, x::step), 0b10111100);
        c.due("status(9)", x.status(9), -1661227463);
    }

    private static void promise62DrawsForStepsAndForMisses() {
        // a gap (16838), struck (38526); a stroke (10113); a stroke (50283)
        AnsweredByTheDrowned x = Checks.of("law 0 0");
        c.due("days(3)", x.days(3), 1);
        c.due("steps", Checks.bits(3, x::step), 0b110);
        c.due("status(9)", x.status(9), -999580867);
        c.due("days(1), missed by 26", Checks.of("law 0 0; miss 27").days(1), 0);
        c.due("days(1), not missed by 26", Checks.of("law 0 0; miss 26").days(1), 1);
        c.due("days(1), miss 100", Checks.of("law 0 0; miss 100").days(1), 0);
    }

    private static void promise62SmallestAndLargest() {
        AnsweredByTheDrowned x = new AnsweredByTheDrowned();
        c.due("days(1)", x.days(1), 0);
        c.due("status(4)", x.status(4), 1);
        c.due("status(9)", x.status(9), BEHIND_ONE);
        AnsweredByTheDrowned y = new AnsweredByTheDrowned();
        c.due("days(40) without laws", y.days(40), 0);
        c.due("steps", Checks.bits(40, y::step), 0x6c8dc7ccbcL);
        c.due("status(9)", y.status(9), 1775811865);
        int[] struck = {18, 7, 0};
        for (int miss = 0; miss <= 100; miss += 50) {
            AnsweredByTheDrowned z = Checks.of("law 0 0; miss " + miss);
            c.due("days(40), miss " + miss, z.days(40), struck[miss / 50]);
            c.due("steps", Checks.bits(40, z::step), 183795875230L);
            c.due("status(9)", z.status(9), -94435665);
        }
    }

    private static void promise62FewerIfThereIsNoRoom() {
        AnsweredByTheDrowned x = Checks.of("ring " + FORTY.substring(2));
        c.due("days(40) with room for two", x.days(40), 0);
        c.due("status(4)", x.status(4), 40);
        c.due("a draw for each step there is room for", x.status(9), -1770082073);
        AnsweredByTheDrowned y = Checks.of("ring " + FORTY.substring(1));
        c.due("days(2) with room for one", y.days(2), 0);
        c.due("status(9)", y.status(9), BEHIND_ONE);
        c.asks("days(1) without room", made("law 0 0; ring " + FORTY), z -> z.days(1), 0);
        c.asks("days(40) without room", made("law 0 0; ring " + FORTY), z -> z.days(40), 0);
    }

    private static void promise62UpperBitsHaveNoSign() {
        int[][] due = {{UPPER_BITS_32767, 1}, {UPPER_BITS_32768, 0}, {UPPER_BITS_65535, 1}, {DRAWS_0, 0}};
        for (int[] one : due) {
            AnsweredByTheDrowned x = new AnsweredByTheDrowned();
            x.seed(one[0]);
            x.days(1);
            c.due("the step from seed " + one[0], x.step(0), one[1]);
        }
    }

    private static void promise62Bad() {
        for (int n : new int[] {-1, 0, 41, MIN, MAX}) {
            c.refused("days(" + n + ")", Checks::some, x -> x.days(n), -2);
            c.refused("days(" + n + ") without room", Checks::full, x -> x.days(n), -2);
        }
    }

    // ---- 63: turn

    private static void promise63LastStepFirst() {
        AnsweredByTheDrowned x = Checks.of("law 1 0; ring sggss");
        c.due("turn()", x.turn(), 2);
        c.due("steps", Checks.bits(5, x::step), 0b10011);
        c.due("turn() again", x.turn(), 2);
        c.due("steps", Checks.bits(5, x::step), 0b11001);
        AnsweredByTheDrowned y = Checks.of("law 1 0; ring sgg");
        c.due("turn() of sgg", y.turn(), 0);
        c.due("steps", Checks.bits(3, y::step), 0b100);
        c.due("turn() of ggs", y.turn(), 1);
        c.due("the seed is as it was", y.status(9), 1);
    }

    private static void promise63NoneOneAndForty() {
        c.asks("no steps", made("law 5 0"), x -> x.turn(), 0);
        c.asks("one stroke", made("law 5 0; ring s"), x -> x.turn(), 1);
        AnsweredByTheDrowned x = Checks.of("law 1 0; ring " + GAPS.substring(1) + "s");
        c.due("turn() of forty", x.turn(), 1);
        c.due("steps", Checks.bits(40, x::step), 1);
        c.due("turn() of forty again", x.turn(), 0);
        c.due("steps", Checks.bits(40, x::step), 1L << 39);
    }

    private static void promise63WithoutLaws() {
        AnsweredByTheDrowned x = Checks.of("ring sg");
        c.due("turn()", x.turn(), 0);
        c.due("steps", Checks.bits(2, x::step), 0b10);
        c.due("turn() of a new object", new AnsweredByTheDrowned().turn(), 0);
        c.due("refusals", Checks.refusals(x), 0);
    }

    // ---- 64: change

    private static void promise64BecomesTheOther() {
        AnsweredByTheDrowned x = Checks.of("law 0 0; ring sg");
        c.due("change(0)", x.change(0), 0);
        c.due("change(1)", x.change(1), 1);
        c.due("steps", Checks.bits(2, x::step), 0b10);
        c.due("change(1) again", x.change(1), 0);
        c.due("steps", Checks.bits(2, x::step), 0b00);
        c.due("the seed is as it was", x.status(9), 1);
        c.due("strikes(1)", x.strikes(1), 1);
        c.due("status(4)", x.status(4), 2);
        c.due("status(5)", x.status(5), 0);
    }

    private static void promise64FirstAndLastOfForty() {
        AnsweredByTheDrowned x = Checks.of("ring " + GAPS);
        c.due("change(0)", x.change(0), 1);
        c.due("change(39)", x.change(39), 1);
        c.due("steps", Checks.bits(40, x::step), 1L << 39 | 1);
        c.due("change(40)", x.change(40), -2);
        c.due("status(5)", x.status(5), 2);
    }

    private static void promise64Bad() {
        for (int t : new int[] {-1, 4, 64, MIN, MAX}) {
            c.refused("change(" + t + ")", Checks::some, x -> x.change(t), -2);
        }
        c.refused("change(40) of forty", Checks::full, x -> x.change(40), -2);
        c.refused("change(0) of no steps", NEW, x -> x.change(0), -2);
    }

    // ---- 65: cut

    private static void promise65HowManyAreLeft() {
        AnsweredByTheDrowned x = Checks.of("ring ssgss");
        c.due("cut(1)", x.cut(1), 4);
        c.due("status(5)", x.status(5), 3);
        c.due("cut(3)", x.cut(3), 1);
        c.due("status(5)", x.status(5), 1);
        c.due("ring(false)", x.ring(false), 0);
        c.due("a stroke that was cut off", x.step(1), 0);
        c.due("cut(2)", x.cut(2), 0);
        c.due("status(4)", x.status(4), 0);
    }

    private static void promise65SmallestAndLargest() {
        AnsweredByTheDrowned x = Checks.of("ring " + STROKES);
        c.due("cut(1) of forty", x.cut(1), 39);
        c.due("ring(false) behind it", x.ring(false), 0);
        c.due("step(39)", x.step(39), 0);
        c.due("cut(40) of forty", x.cut(40), 0);
        c.due("status(4)", x.status(4), 0);
        c.due("cut(39) of forty", Checks.of("ring " + STROKES).cut(39), 1);
        c.due("cut(1) of one", Checks.of("ring s").cut(1), 0);
    }

    private static void promise65BadAheadOfStuck() {
        for (int n : new int[] {-1, 0, 41, MIN, MAX}) {
            c.refused("cut(" + n + ")", Checks::some, x -> x.cut(n), -2);
            c.refused("cut(" + n + ") of forty", Checks::full, x -> x.cut(n), -2);
            c.refused("cut(" + n + ") of no steps", NEW, x -> x.cut(n), -2);
        }
    }

    private static void promise65StuckIfThereAreFewer() {
        c.refused("cut(5) of four", Checks::some, x -> x.cut(5), -5);
        c.refused("cut(40) of four", Checks::some, x -> x.cut(40), -5);
        c.refused("cut(40) of 39", made("ring " + STROKES.substring(1)), x -> x.cut(40), -5);
        c.refused("cut(1) of none", NEW, x -> x.cut(1), -5);
    }

    // ---- 66: still

    private static void promise66HowManyThereWere() {
        AnsweredByTheDrowned x = Checks.of("law 0 0; person 9; ring ssgss");
        c.due("still()", x.still(), 5);
        c.due("status(4)", x.status(4), 0);
        c.due("status(5)", x.status(5), 0);
        c.due("ring(false)", x.ring(false), 1);
        c.due("a stroke that was there", x.step(0), 0);
        c.due("status(0)", x.status(0), 1);
        c.due("status(6)", x.status(6), 1);
    }

    private static void promise66NoneAndForty() {
        c.asks("still() of no steps", made("law 0 0"), x -> x.still(), 0);
        AnsweredByTheDrowned x = Checks.of("ring " + STROKES);
        c.due("still() of forty", x.still(), 40);
        c.due("still() again", x.still(), 0);
        c.due("forty gaps behind it", Checks.read(x, "ring " + GAPS), 1);
        c.due("status(5)", x.status(5), 0);
    }

    // ---- 67: seed

    private static void promise67TheOneAhead() {
        AnsweredByTheDrowned x = new AnsweredByTheDrowned();
        c.due("seed(0)", x.seed(0), 1);
        c.due("seed(MIN)", x.seed(MIN), 0);
        c.due("status(9)", x.status(9), MIN);
        c.due("seed(MAX)", x.seed(MAX), MIN);
        c.due("status(9)", x.status(9), MAX);
        c.due("seed(-1)", x.seed(-1), MAX);
        c.due("seed(1)", x.seed(1), -1);
        c.due("seed(1) again", x.seed(1), 1);
    }

    private static void drawn(int seed, int behind) {
        AnsweredByTheDrowned x = Checks.of("law 0 0");
        x.seed(seed);
        c.due("ring(false)", x.ring(false), 1);
        c.due("seed() behind a draw from " + seed, x.seed(0), behind);
    }

    private static void promise67WrapsAroundAsAnInt() {
        drawn(1, BEHIND_ONE);
        drawn(2, -2087924461);
        drawn(0, 12345);
        drawn(-1, -1103502900);
        drawn(MAX, 1043980748);
        drawn(MIN, -2147471303);
        drawn(UPPER_BITS_32767, 32767 << 16);
        drawn(UPPER_BITS_32768, MIN);
        drawn(UPPER_BITS_65535, -65536);
    }

    private static void promise67DrawsGoOnFromIt() {
        AnsweredByTheDrowned x = Checks.of("law 0 0; miss 50");
        x.seed(6);
        c.due("a draw of 94", x.ring(false), 1);
        c.due("a draw of 15", x.ring(false), 0);
        x.seed(6);
        c.due("a draw of 94 again", x.ring(false), 1);
    }
}
