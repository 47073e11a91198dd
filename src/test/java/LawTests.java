import java.util.function.Supplier;

/** Promises 32 to 38: LAWS beside one another. */
public final class LawTests {
    private static final Checks c = new Checks();
    private static final int MIN = Integer.MIN_VALUE;
    private static final int MAX = Integer.MAX_VALUE;
    private static final Supplier<AnsweredByTheDrowned> NEW = AnsweredByTheDrowned::new;

    /** In sgsgg they strike: 0 and 1 at 1, 3, 4; 2 at 1, 3; 3 at 0, 3; 4 at 4. */
    private static final String FIVE = "law 0 3; law 4 0; law 1 0; law 5 1; law 2 1; ring sgsgg";
    private static final String SIX_ALIKE = "law 0 0; law 0 1; law 0 2; law 0 3; law 0 4; law 0 5";
    private static final String GAPS = "g".repeat(40);
    private static final String STROKES = "s".repeat(40);

    public static void main(String[] args) {
        c.run(LawTests.class);
    }

    private static Supplier<AnsweredByTheDrowned> made(String text) {
        return Checks.made(text);
    }

    // ---- 32: sameAs

    private static void promise32ItselfToo() {
        AnsweredByTheDrowned x = Checks.of(FIVE);
        int[] due = {0b00011, 0b00011, 0b00100, 0b01000, 0b10000};
        for (int law = 0; law < 5; law++) {
            c.due("sameAs(" + law + ")", x.sameAs(law), due[law]);
        }
        c.due("the only law", Checks.of("law 0 0; ring sg").sameAs(0), 1);
    }

    private static void promise32AllSix() {
        AnsweredByTheDrowned x = Checks.of(SIX_ALIKE + "; ring " + GAPS);
        c.due("sameAs(0) of six", x.sameAs(0), 63);
        c.due("sameAs(5) of six", x.sameAs(5), 63);
        c.due("sameAs(5) of six kinds", Checks.of(Checks.SIX_LAWS + "; ring " + STROKES).sameAs(5), 0b100000);
    }

    private static void promise32NoSteps() {
        c.asks("sameAs(2) in no steps", made("law 0 0; law 1 0; law 5 0"), x -> x.sameAs(2), 0b111);
        c.asks("sameAs(0) in no steps", made(Checks.SIX_LAWS), x -> x.sameAs(0), 63);
    }

    private static void promise32Bad() {
        for (int law : new int[] {-1, 5, MIN, MAX}) {
            c.refused("sameAs(" + law + ") of five", made(FIVE), x -> x.sameAs(law), -2);
        }
        c.refused("sameAs(6) of six", Checks::full, x -> x.sameAs(6), -2);
        c.refused("sameAs(0) without laws", made("ring s"), x -> x.sameAs(0), -2);
    }

    // ---- 33: apart

    private static void promise33FirstStep() {
        AnsweredByTheDrowned x = Checks.of(FIVE);
        c.due("apart(0, 2)", x.apart(0, 2), 4);
        c.due("apart(2, 0)", x.apart(2, 0), 4);
        c.due("apart(0, 3)", x.apart(0, 3), 0);
        c.due("apart(0, 4)", x.apart(0, 4), 1);
        // an ECHO and a LATE of a stroke at 38: the one at 39, the other behind the last
        AnsweredByTheDrowned y = Checks.of("law 1 0; law 3 0; ring " + GAPS.substring(2) + "sg");
        c.due("apart(0, 1) at the last of forty", y.apart(0, 1), 39);
    }

    private static void promise33NoneIsNotRefused() {
        c.asks("apart(0, 1)", made(FIVE), x -> x.apart(0, 1), -1);
        c.asks("apart(0, 1) in no steps", made("law 0 0; law 5 0"), x -> x.apart(0, 1), -1);
        c.asks("apart(0, 5) of six alike", made(SIX_ALIKE + "; ring " + GAPS), x -> x.apart(0, 5), -1);
    }

    private static void promise33BadAlsoTheSame() {
        int[][] bad = {{0, 0}, {4, 4}, {0, 5}, {5, 0}, {-1, 0}, {0, -1}, {5, 5}, {-1, -1}, {MIN, 0}, {0, MAX}};
        for (int[] one : bad) {
            c.refused("apart(" + one[0] + ", " + one[1] + ")", made(FIVE), x -> x.apart(one[0], one[1]), -2);
        }
        c.refused("apart(0, 6) of six", Checks::full, x -> x.apart(0, 6), -2);
        c.refused("apart(0, 1) without laws", made("ring s"), x -> x.apart(0, 1), -2);
    }

    // ---- 34: parts

    private static void parted(String laws, int steps, int bits) {
        for (String text : new String[] {laws, laws + "; ring " + GAPS}) {
            c.asks("parts(0, 1, 0) of " + text, made(text), x -> x.parts(0, 1, 0), steps);
            c.asks("parts(0, 1, 1) of " + text, made(text), x -> x.parts(0, 1, 1), bits);
            c.asks("parts(1, 0, 0) of " + text, made(text), x -> x.parts(1, 0, 0), steps);
            c.asks("parts(1, 0, 1) of " + text, made(text), x -> x.parts(1, 0, 1), bits);
        }
    }

    private static void promise34FewestSteps() {
        parted("law 0 0; law 5 0", 1, 1);
        parted("law 0 0; law 2 1", 1, 0);
        parted("law 2 1; law 2 2", 2, 0);
        parted("law 0 0; law 4 1", 2, 1);
        parted("law 1 0; law 1 2", 2, 1);
        parted("law 4 1; law 4 3", 3, 3);
    }

    private static void promise34LeastAsBits() {
        parted("law 4 8; law 4 9", 10, 511);
        parted("law 1 7; law 1 9", 9, 1);
        parted("law 0 0; law 1 0", 1, 0);
    }

    /** No two laws need twelve: what looks farthest is a LATE of 9, which another of as few strokes meets at 10. */
    private static void promise34Most() {
        parted("law 2 8; law 2 9", 9, 0);
        parted("law 1 9; law 3 9", 11, 1);
        parted("law 5 8; law 5 9", 11, 0);
    }

    private static void promise34NoneIsNotRefused() {
        parted("law 0 0; law 0 5", -1, -1);
        parted("law 0 0; law 2 0", -1, -1);
        parted("law 0 3; law 4 0", -1, -1);
        parted("law 1 3; law 3 2", -1, -1);
        parted("law 3 9; law 3 9", -1, -1);
    }

    private static void promise34BadAlsoTheSame() {
        int[][] bad = {{0, 0, 0}, {0, 5, 0}, {5, 0, 0}, {-1, 0, 0}, {0, -1, 1}, {0, 1, 2}, {0, 1, -1}, {0, 0, 2},
            {MIN, 0, 0}, {0, MAX, 0}, {0, 1, MAX}, {5, 5, 0}};
        for (int[] one : bad) {
            c.refused("parts(" + one[0] + ", " + one[1] + ", " + one[2] + ")", made(FIVE),
                    x -> x.parts(one[0], one[1], one[2]), -2);
        }
        c.refused("parts(0, 1, 0) without laws", NEW, x -> x.parts(0, 1, 0), -2);
    }

    // ---- 35: common

    private static void promise35AllOfASet() {
        AnsweredByTheDrowned x = Checks.of(FIVE);
        c.due("common(0b00001)", x.common(0b00001), 3);
        c.due("common(0b10000)", x.common(0b10000), 1);
        c.due("common(0b00101)", x.common(0b00101), 2);
        c.due("common(0b01101)", x.common(0b01101), 1);
        c.due("common(0b11111)", x.common(0b11111), 0);
    }

    private static void promise35OfNoLawsAtAll() {
        c.asks("common(0)", made(FIVE), x -> x.common(0), 5);
        c.asks("common(0) of forty", made("ring " + GAPS), x -> x.common(0), 40);
        c.asks("common(0) in no steps", NEW, x -> x.common(0), 0);
        c.asks("common(0) in no steps by a law", made("law 5 0"), x -> x.common(0), 0);
    }

    private static void promise35AllSixInForty() {
        c.due("common(63)", Checks.of(SIX_ALIKE + "; ring " + GAPS).common(63), 40);
        c.due("common(63) in strokes", Checks.of(SIX_ALIKE + "; ring " + STROKES).common(63), 0);
    }

    private static void promise35BadAlsoLawsThatAreNotThere() {
        for (int set : new int[] {-1, 0b100000, 0b111111, MIN, MAX}) {
            c.refused("common(" + set + ") of five", made(FIVE), x -> x.common(set), -2);
        }
        c.refused("common(64) of six", Checks::full, x -> x.common(64), -2);
        c.refused("common(1) without laws", made("ring s"), x -> x.common(1), -2);
        c.refused("common(-1) without laws", made("ring s"), x -> x.common(-1), -2);
    }

    // ---- 36: alone

    private static void promise36NoOtherDoes() {
        AnsweredByTheDrowned x = Checks.of(FIVE);
        int[] due = {0, 0, 0, 1, 0};
        for (int law = 0; law < 5; law++) {
            c.due("alone(" + law + ")", x.alone(law), due[law]);
        }
        AnsweredByTheDrowned y = Checks.of("law 1 0; law 5 3; law 0 0; ring sgsss");
        c.due("alone(0), beside one at 0 and one at 1", y.alone(0), 2);
        c.due("alone(1)", y.alone(1), 1);
        c.due("alone(2)", y.alone(2), 0);
    }

    private static void promise36OnlyLaw() {
        c.asks("the only law", made("law 0 0; ring sgg"), x -> x.alone(0), 2);
        c.asks("the only law in forty", made("law 0 0; ring " + GAPS), x -> x.alone(0), 40);
        c.asks("in no steps", made("law 5 0"), x -> x.alone(0), 0);
        c.asks("the sixth alike", made(SIX_ALIKE + "; ring " + GAPS), x -> x.alone(5), 0);
    }

    private static void promise36Bad() {
        for (int law : new int[] {-1, 5, MIN, MAX}) {
            c.refused("alone(" + law + ") of five", made(FIVE), x -> x.alone(law), -2);
        }
        c.refused("alone(6) of six", Checks::full, x -> x.alone(6), -2);
        c.refused("alone(0) without laws", made("ring s"), x -> x.alone(0), -2);
    }

    // ---- 37: busiest

    private static void promise37MostOften() {
        c.due("the last", Checks.of("law 2 1; law 1 0; law 0 3; ring sgsgg").busiest(), 2);
        c.due("the one between", Checks.of("law 2 1; law 0 0; law 1 0; ring sgsgg").busiest(), 1);
        c.due("the sixth", Checks.of("law 1 0; law 1 0; law 1 0; law 1 0; law 1 0; law 0 0; ring " + GAPS).busiest(), 5);
    }

    private static void promise37FirstOfSeveral() {
        c.due("two alike", Checks.of(FIVE).busiest(), 0);
        c.due("two alike behind one", Checks.of("law 2 1; law 0 0; law 0 0; ring sgsgg").busiest(), 1);
        c.due("in no steps", Checks.of(Checks.SIX_LAWS).busiest(), 0);
        c.due("the only law", Checks.of("law 1 0; ring s").busiest(), 0);
    }

    private static void promise37StuckWithoutLaws() {
        c.refused("busiest() without laws", made("ring s"), x -> x.busiest(), -5);
        c.refused("busiest() of a new object", NEW, x -> x.busiest(), -5);
    }

    // ---- 38: lawFor

    private static void promise38FewestStrokes() {
        String laws = "law 0 0; law 2 1; law 1 0; law 5 0";
        c.asks("lawFor(2, 0b10)", made(laws), x -> x.lawFor(2, 0b10), 1);
        c.asks("lawFor(3, 0b111)", made(laws), x -> x.lawFor(3, 0b111), 0);
        c.asks("lawFor(4, 0b0101)", made(laws), x -> x.lawFor(4, 0b0101), 3);
        c.asks("lawFor(4, 0b1010)", made(laws), x -> x.lawFor(4, 0b1010), 0);
        c.asks("lawFor(3, 0b010)", made(laws), x -> x.lawFor(3, 0b010), 1);
    }

    private static void promise38FirstOfSeveral() {
        c.asks("two without strokes", made("law 0 0; law 1 0; law 3 0"), x -> x.lawFor(3, 0), 1);
        c.asks("six alike", made(SIX_ALIKE), x -> x.lawFor(12, 0), 0);
        c.asks("a plan of strokes alone", made("law 0 0"), x -> x.lawFor(2, 0), 0);
    }

    private static void promise38SmallestAndLargest() {
        String laws = "law 0 0; law 1 9; law 5 0";
        c.asks("lawFor(1, 0)", made(laws), x -> x.lawFor(1, 0), 1);
        c.asks("lawFor(1, 1)", made(laws), x -> x.lawFor(1, 1), 0);
        c.asks("lawFor(12, 0)", made(laws), x -> x.lawFor(12, 0), 1);
        c.asks("lawFor(12, 4095)", made(laws), x -> x.lawFor(12, 4095), 0);
        c.asks("lawFor(12, 0b010101010101)", made(laws), x -> x.lawFor(12, 0b010101010101), 2);
    }

    private static void promise38NoneIsNotRefused() {
        c.asks("none has one", made("law 5 0; law 1 0"), x -> x.lawFor(2, 0b11), -1);
        c.asks("without laws", NEW, x -> x.lawFor(12, 4095), -1);
        c.asks("without laws", NEW, x -> x.lawFor(1, 0), -1);
    }

    private static void promise38Bad() {
        int[][] bad = {{0, 0}, {-1, 0}, {13, 0}, {MIN, 0}, {MAX, 0}, {1, 2}, {2, 4}, {2, -1}, {12, 4096}, {12, MIN},
            {12, MAX}, {33, 1}, {32, 0}};
        for (int[] one : bad) {
            c.refused("lawFor(" + one[0] + ", " + one[1] + ")", Checks::some, x -> x.lawFor(one[0], one[1]), -2);
            c.refused("lawFor(" + one[0] + ", " + one[1] + ") without laws", NEW, x -> x.lawFor(one[0], one[1]), -2);
        }
    }
}
