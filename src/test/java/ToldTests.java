import java.util.function.Supplier;

/** Promises 39 to 45: what was told of what was heard, what may be missed, and what to ring next. */
public final class ToldTests {
    private static final Checks c = new Checks();
    private static final int MIN = Integer.MIN_VALUE;
    private static final int MAX = Integer.MAX_VALUE;
    private static final Supplier<AnsweredByTheDrowned> NEW = AnsweredByTheDrowned::new;

    /** In sgsgg they strike: 0 and 1 at 1, 3, 4; 2 at 1, 3; 3 at 0, 3; 4 at 4. */
    private static final String FIVE = "law 0 3; law 4 0; law 1 0; law 5 1; law 2 1; ring sgsgg";
    private static final String GAPS = "g".repeat(40);
    private static final String STROKES = "s".repeat(40);

    public static void main(String[] args) {
        c.run(ToldTests.class);
    }

    private static Supplier<AnsweredByTheDrowned> made(String text) {
        return Checks.made(text);
    }

    private static AnsweredByTheDrowned told(String text, long... heard) {
        return Checks.told(text, heard);
    }

    /** A ROW of forty, 0 ahead of a place and 1 from there on. */
    private static AnsweredByTheDrowned toldFrom(String text, int from) {
        long[] heard = new long[40];
        java.util.Arrays.fill(heard, from, 40, 1);
        return told(text, heard);
    }

    // ---- the refusals of depths, differs and fits

    /** SHELF 0 has two elements for three STEPS, 1 a LAW, 2 NOTHING, 3 no elements. */
    private static AnsweredByTheDrowned tooFew() {
        AnsweredByTheDrowned x = told("law 0 0; ring sgg", 1, 0);
        x.show(1, 0);
        x.row(3, 0, 0);
        return x;
    }

    private interface Telling {
        int answer(AnsweredByTheDrowned x, int s);
    }

    private static void toldRefused(String name, Telling telling) {
        for (int s : new int[] {-1, 8, MIN, MAX}) {
            c.refused(name + "(" + s + ")", ToldTests::tooFew, x -> telling.answer(x, s), -2);
            c.refused(name + "(" + s + ") of no steps", made("law 0 0"), x -> telling.answer(x, s), -2);
        }
        c.refused(name + "(1) of a law", ToldTests::tooFew, x -> telling.answer(x, 1), -3);
        c.refused(name + "(2) of nothing", ToldTests::tooFew, x -> telling.answer(x, 2), -4);
        c.refused(name + "(0) of fewer elements", ToldTests::tooFew, x -> telling.answer(x, 0), -2);
        c.refused(name + "(3) of no elements", ToldTests::tooFew, x -> telling.answer(x, 3), -2);
        c.refused(name + "(0) of 39 for forty", () -> told("ring " + GAPS, new long[39]), x -> telling.answer(x, 0), -2);
        c.refused(name + "(0) of fewer without laws", () -> told("ring sg", 1), x -> telling.answer(x, 0), -2);
        c.refused(name + "(0) of nothing in a new object", NEW, x -> telling.answer(x, 0), -4);
    }

    // ---- 39: depths

    private static void promise39WhichDepths() {
        c.asks("at 0", () -> told("law 0 0; ring sgsgg", 1, 1, 1, 1, 1), x -> x.depths(0), 1);
        c.asks("at 2", () -> told("law 0 0; ring sgsgg; depth 9", 1, 0, -7, 1, 0), x -> x.depths(0), 1 << 2);
        c.asks("at 4 and more", () -> told("law 0 0; ring sgsgg", 1, 0, 1, 0, 0), x -> x.depths(0), 0b1111110000);
        c.asks("at none", () -> told("law 0 0; ring sgsgg", 0, 0, 0, 0, 0), x -> x.depths(0), 0);
        c.asks("by the one IN FORCE", () -> told("law 1 0; law 0 0; use 1; ring gg", 1, 1), x -> x.depths(0), 1);
    }

    private static void promise39SmallestAndLargestDepth() {
        for (int depth = 0; depth <= 9; depth++) {
            int from = depth;
            c.asks("forty at " + depth, () -> toldFrom("law 0 0; ring " + GAPS, from), x -> x.depths(0), 1 << depth);
        }
        c.asks("forty at 10", () -> toldFrom("law 0 0; ring " + GAPS, 10), x -> x.depths(0), 0);
    }

    private static void promise39WithoutLawsOrSteps() {
        c.asks("without laws", () -> told("ring sg", 1, 0), x -> x.depths(0), 1023);
        c.asks("without laws, otherwise", () -> told("ring sg", 1, 1), x -> x.depths(0), 0);
        c.asks("no steps, no elements", () -> told(""), x -> x.depths(0), 1023);
        c.asks("no steps, some elements", () -> told("law 0 0", 1, 1), x -> x.depths(0), 1023);
    }

    private static void promise39MoreElementsThanSteps() {
        c.asks("one more", () -> told("law 0 0; ring sgsgg", 1, 0, 1, 1, 0, 9), x -> x.depths(0), 1 << 2);
        c.asks("forty for one", () -> toldFrom("law 0 0; ring g", 0), x -> x.depths(0), 1);
    }

    private static void promise39Refused() {
        toldRefused("depths", (x, s) -> x.depths(s));
    }

    // ---- 40: differs

    private static void promise40HowMany() {
        c.asks("heard so", () -> told("law 0 0; ring sgsgg", 1, 0, 5, 1, 0), x -> x.differs(0), 0);
        c.asks("heard otherwise", () -> told("law 0 0; ring sgsgg", 0, 1, 0, 0, 1), x -> x.differs(0), 5);
        c.asks("without laws", () -> told("ring sg", 1, 1), x -> x.differs(0), 1);
    }

    private static void promise40NoneAndAllForty() {
        c.asks("no steps", () -> told(""), x -> x.differs(0), 0);
        c.asks("no steps, some elements", () -> told("law 0 0", 1, 1), x -> x.differs(0), 0);
        c.asks("forty strokes told as gaps", () -> toldFrom("ring " + STROKES, 40), x -> x.differs(0), 40);
        c.asks("forty strokes told as such", () -> toldFrom("ring " + STROKES, 0), x -> x.differs(0), 0);
        c.asks("the last of forty", () -> toldFrom("ring " + GAPS, 39), x -> x.differs(0), 1);
    }

    private static void promise40MoreElementsThanSteps() {
        c.asks("two more", () -> told("law 0 0; ring sgsgg", 1, 1, 1, 1, 1, 1, 1), x -> x.differs(0), 2);
        c.asks("forty for two", () -> toldFrom("ring sg", 1), x -> x.differs(0), 2);
    }

    private static void promise40Refused() {
        toldRefused("differs", (x, s) -> x.differs(s));
    }

    // ---- 41: together

    private static void promise41MostBoth() {
        c.asks("sgsgg", made("law 0 0; ring sgsgg; depth 7"), x -> x.together(), 1);
        c.asks("ggsss", made("law 0 0; ring ggsss"), x -> x.together(), 2);
        c.asks("gsggsgsggs", made("law 0 0; ring gsggsgsggs; depth 0"), x -> x.together(), 1);
        c.asks("by the one IN FORCE", made("law 1 0; law 0 0; use 1; ring gggs"), x -> x.together(), 1);
    }

    private static void promise41SmallestAndLargestDepth() {
        c.asks("depth 0", made("law 5 9; ring s"), x -> x.together(), 0);
        c.asks("depth 9", made("law 5 9; ring gggggggggs"), x -> x.together(), 9);
        c.asks("depth 10", made("law 5 9; ring ggggggggggs"), x -> x.together(), 0);
        c.asks("forty strokes", made("law 5 0; ring " + STROKES), x -> x.together(), 0);
    }

    private static void promise41LeastOfSeveral() {
        c.asks("at 2 or 4", made("law 5 9; ring ggsgs"), x -> x.together(), 2);
        c.asks("no step both", made("law 0 0; depth 5; ring sss"), x -> x.together(), 0);
        c.asks("no steps", made("law 0 0; depth 5"), x -> x.together(), 0);
        c.asks("without laws", made("ring sgs; depth 5"), x -> x.together(), 0);
        c.asks("a new object", NEW, x -> x.together(), 0);
    }

    // ---- 42: odds

    private static void promise42Cut() {
        c.asks("miss 10", made("law 0 0; ring gsgg; miss 10"), x -> x.odds(), 729000);
        c.asks("miss 37", made("law 0 0; ring ggggg; miss 37"), x -> x.odds(), 99243);
        c.asks("cut after each", made("law 0 0; ring gggggggg; miss 10"), x -> x.odds(), 430466);
        c.asks("three times 1 of 100", made("law 0 0; ring ggg; miss 99"), x -> x.odds(), 1);
        c.asks("four times 1 of 100", made("law 0 0; ring gggg; miss 99"), x -> x.odds(), 0);
    }

    private static void promise42SmallestAndLargestMiss() {
        c.asks("miss 0", made("law 0 0; ring ggg"), x -> x.odds(), 1000000);
        c.asks("miss 0 in forty", made("law 0 0; ring " + GAPS), x -> x.odds(), 1000000);
        c.asks("miss 1 in forty", made("law 0 0; miss 1; ring " + GAPS), x -> x.odds(), 668956);
        c.asks("miss 99", made("law 0 0; ring g; miss 99"), x -> x.odds(), 10000);
        c.asks("miss 100", made("law 0 0; ring g; miss 100"), x -> x.odds(), 0);
        c.asks("miss 100 in forty", made("law 0 0; miss 100; ring " + GAPS), x -> x.odds(), 0);
    }

    private static void promise42NeverStriking() {
        c.asks("a stroke", made("law 0 0; ring s; miss 100"), x -> x.odds(), 1000000);
        c.asks("without laws", made("ring gg; miss 50"), x -> x.odds(), 1000000);
        c.asks("no steps", made("law 0 0; miss 50"), x -> x.odds(), 1000000);
        c.asks("a new object", NEW, x -> x.odds(), 1000000);
    }

    // ---- 43: expected

    private static void promise43SmallestAndLargestMiss() {
        c.asks("miss 0", made("law 0 0; ring gsg"), x -> x.expected(), 2000);
        c.asks("miss 33", made("law 0 0; ring gsg; miss 33"), x -> x.expected(), 1340);
        c.asks("miss 99", made("law 0 0; ring gsg; miss 99"), x -> x.expected(), 20);
        c.asks("miss 100", made("law 0 0; ring gsg; miss 100"), x -> x.expected(), 0);
    }

    private static void promise43NoneAndAllForty() {
        c.asks("forty", made("law 0 0; ring " + GAPS), x -> x.expected(), 40000);
        c.asks("forty, miss 1", made("law 0 0; miss 1; ring " + GAPS), x -> x.expected(), 39600);
        c.asks("without laws", made("ring gsg"), x -> x.expected(), 0);
        c.asks("no steps", made("law 0 0"), x -> x.expected(), 0);
    }

    // ---- 44: fits

    private static void promise44WhichLaws() {
        c.asks("sgsgg heard at 0, 2, 3", () -> told(FIVE, 1, 0, 1, 1, 0), x -> x.fits(0), 0b00111);
        c.asks("sgsgg heard at 0, 2", () -> told(FIVE, 1, 0, 1, 0, 0), x -> x.fits(0), 0b11000);
        c.asks("depth 0", () -> told(FIVE + "; depth 0", 1, 1, 1, 1, 0), x -> x.fits(0), 0b00100);
        c.asks("none", () -> told(FIVE, 0, 0, 0, 0, 0), x -> x.fits(0), 0);
    }

    private static void promise44OthersThanZeroAreHeard() {
        c.asks("ints", () -> told(FIVE, -1, 0, 1L << 20, 0, 0), x -> x.fits(0), 0b11000);
        AnsweredByTheDrowned x = Checks.of("law 5 9; depth 0; ring g");
        long[] least = {1, 1, 1, 1L << 32, 1};
        for (int sort = 0; sort <= 4; sort++) {
            x.row(sort, sort, 1);
            c.due("0 of sort " + sort, x.fits(sort), 0);
            x.set(sort, 0, least[sort]);
            c.due("another of sort " + sort, x.fits(sort), 1);
            x.set(sort, 0, Long.MIN_VALUE);
            c.due("the lowest bits of sort " + sort, x.fits(sort), sort >= 3 ? 1 : 0);
        }
    }

    private static void promise44NoLawsAndAllSix() {
        c.asks("without laws", () -> told("ring s", 1), x -> x.fits(0), 0);
        c.asks("six in no steps", () -> told(Checks.SIX_LAWS), x -> x.fits(0), 63);
        c.asks("six in no steps, some elements", () -> told(Checks.SIX_LAWS, 0, 1), x -> x.fits(0), 63);
        c.asks("six in strokes", () -> told(Checks.SIX_LAWS + "; ring ss", 1, 1), x -> x.fits(0), 63);
        c.asks("the sixth", () -> told(Checks.SIX_LAWS + "; depth 0; ring sgggg", 1, 1, 1, 1, 1), x -> x.fits(0), 0b1);
    }

    private static void promise44AllForty() {
        c.asks("forty at depth 9", () -> toldFrom("law 1 0; law 0 0; depth 9; ring " + GAPS, 9), x -> x.fits(0), 0b10);
        c.asks("forty silent", () -> toldFrom("law 1 0; law 0 0; depth 9; ring " + GAPS, 40), x -> x.fits(0), 0b01);
        c.asks("the last of forty", () -> toldFrom("law 1 0; law 0 0; ring " + GAPS, 39), x -> x.fits(0), 0);
    }

    private static void promise44MoreElementsThanSteps() {
        c.asks("two more", () -> told(FIVE, 1, 0, 1, 0, 0, 3, 3), x -> x.fits(0), 0b11000);
        c.asks("forty for one", () -> toldFrom("law 5 9; depth 0; ring g", 0), x -> x.fits(0), 1);
    }

    private static void promise44Refused() {
        toldRefused("fits", (x, s) -> x.fits(s));
    }

    // ---- 45: next

    private static void nextIs(String text, int set, int step, int parted) {
        c.asks("next(" + set + ", 0) of " + text, made(text), x -> x.next(set, 0), step);
        c.asks("next(" + set + ", 1) of " + text, made(text), x -> x.next(set, 1), parted);
    }

    private static void promise45LesserOfBothIsParted() {
        // behind sgsgg a gap is struck by 0, 1 and 4, by neither 2 nor 3; a stroke by none
        nextIs(FIVE, 0b11111, 0, 2);
        nextIs(FIVE, 0b01101, 0, 1);
        nextIs(FIVE, 0b00111, 0, 1);
        nextIs(FIVE, 0b00011, 0, 0);
        nextIs(FIVE, 0b01100, 0, 0);
    }

    private static void promise45GreaterPartedGapIfAlike() {
        // hours strike whatever comes, the other at a gap alone: by a stroke they part
        nextIs("law 0 0; law 5 0; ring gs", 0b11, 1, 1);
        // an echo strikes whatever comes, so both steps part them
        nextIs("law 1 0; law 1 1; ring gs", 0b11, 0, 1);
        nextIs("law 0 0; law 1 9; ring gs", 0b11, 0, 1);
    }

    private static void promise45NoLawsAndAllSix() {
        nextIs(FIVE, 0, 0, 0);
        nextIs("", 0, 0, 0);
        nextIs("ring sg", 0, 0, 0);
        // behind nothing a gap is struck by LAW, COUNTER and HOURS, a stroke by HOURS
        nextIs(Checks.SIX_LAWS, 63, 0, 3);
        nextIs(Checks.SIX_LAWS, 0b100010, 0, 1);
    }

    private static void promise45RoomForOneMore() {
        nextIs(Checks.SIX_LAWS + "; ring " + GAPS.substring(1), 63, 0, 3);
        nextIs("law 0 0; law 1 0; ring " + STROKES.substring(1), 3, 1, 1);
    }

    private static void promise45BadAlsoLawsThatAreNotThere() {
        for (int set : new int[] {-1, 0b1000, 0b1111, MIN, MAX}) {
            c.refused("next(" + set + ", 0) of three", Checks::some, x -> x.next(set, 0), -2);
        }
        for (int what : new int[] {-1, 2, MIN, MAX}) {
            c.refused("next(1, " + what + ")", Checks::some, x -> x.next(1, what), -2);
        }
        c.refused("next(1, 0) without laws", NEW, x -> x.next(1, 0), -2);
    }

    private static void promise45FullBehindBad() {
        c.refused("next(63, 0) of forty", Checks::full, x -> x.next(63, 0), -6);
        c.refused("next(0, 1) of forty", Checks::full, x -> x.next(0, 1), -6);
        c.refused("next(0, 0) of forty without laws", made("ring " + GAPS), x -> x.next(0, 0), -6);
        c.refused("next(64, 0) of forty", Checks::full, x -> x.next(64, 0), -2);
        c.refused("next(-1, 0) of forty", Checks::full, x -> x.next(-1, 0), -2);
        c.refused("next(0, 2) of forty", Checks::full, x -> x.next(0, 2), -2);
        c.refused("next(0, -1) of forty", Checks::full, x -> x.next(0, -1), -2);
        c.refused("next(1, 0) of forty without laws", made("ring " + GAPS), x -> x.next(1, 0), -2);
    }
}
