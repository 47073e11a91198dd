import java.util.function.Supplier;

/** Promises 18 to 31: THE RING, what it strikes, and what is HEARD. */
public final class HeardTests {
    private static final Checks c = new Checks();
    private static final int MIN = Integer.MIN_VALUE;
    private static final int MAX = Integer.MAX_VALUE;
    private static final Supplier<AnsweredByTheDrowned> NEW = AnsweredByTheDrowned::new;

    /** One LAW of each KIND, numbered by it. */
    private static final String LAWS = "law 0 0; law 1 0; law 2 1; law 3 0; law 4 1; law 5 1; ";
    private static final String GAPS = "g".repeat(40);
    private static final String STROKES = "s".repeat(40);
    private static final long ALL_FORTY = (1L << 40) - 1;

    public static void main(String[] args) {
        c.run(HeardTests.class);
    }

    private static Supplier<AnsweredByTheDrowned> made(String text) {
        return Checks.made(text);
    }

    // ---- 18: step

    private static void promise18StrokesAndGaps() {
        AnsweredByTheDrowned x = Checks.of("ring sgs");
        c.due("step(0)", x.step(0), 1);
        c.due("step(1)", x.step(1), 0);
        c.due("step(2)", x.step(2), 1);
    }

    private static void promise18FirstAndLastOfForty() {
        AnsweredByTheDrowned x = Checks.of("ring s" + GAPS.substring(2) + "s");
        c.due("steps", Checks.bits(40, x::step), 1L << 39 | 1);
        c.refused("step(40)", made("ring " + STROKES), y -> y.step(40), -2);
    }

    private static void promise18Bad() {
        for (int t : new int[] {-1, 3, 64, MIN, MAX}) {
            c.refused("step(" + t + ")", made("ring sss"), x -> x.step(t), -2);
        }
        c.refused("step(0) of no steps", NEW, x -> x.step(0), -2);
    }

    // ---- 19: strikes

    private static void promise19ByTheLawInForce() {
        int[] due = {0b11010, 0b01010, 0b10000, 0b10100, 0b11000, 0b01001};
        AnsweredByTheDrowned x = Checks.of(LAWS + "ring sgsgg");
        for (int law = 0; law < 6; law++) {
            x.use(law);
            c.due("strikes by law " + law, Checks.bits(5, x::strikes), due[law]);
        }
        c.due("forty gaps", Checks.bits(40, Checks.of("law 0 0; ring " + GAPS)::strikes), ALL_FORTY);
        c.due("forty strokes", Checks.bits(40, Checks.of("law 0 0; ring " + STROKES)::strikes), 0);
    }

    private static void promise19Bad() {
        for (int t : new int[] {-1, 2, 64, MIN, MAX}) {
            c.refused("strikes(" + t + ")", made("law 5 0; ring sg"), x -> x.strikes(t), -2);
            c.refused("strikes(" + t + ") without laws", made("ring sg"), x -> x.strikes(t), -2);
        }
        c.refused("strikes(40) of forty", Checks::full, x -> x.strikes(40), -2);
        c.refused("strikes(0) of no steps", made("law 0 0"), x -> x.strikes(0), -2);
        c.refused("strikes(0) of a new object", NEW, x -> x.strikes(0), -2);
    }

    private static void promise19StuckWithoutLaws() {
        c.refused("strikes(0) without laws", made("ring sg"), x -> x.strikes(0), -5);
        c.refused("strikes(1) without laws", made("ring sg"), x -> x.strikes(1), -5);
    }

    // ---- 20: strikesBy, and by what each KIND strikes

    private static void promise20ByALaw() {
        int[] due = {0b11010, 0b01010, 0b10000, 0b10100, 0b11000, 0b01001};
        AnsweredByTheDrowned x = Checks.of(LAWS + "use 3; ring sgsgg");
        for (int law = 0; law < 6; law++) {
            int by = law;
            c.due("strikes by law " + law, Checks.bits(5, t -> x.strikesBy(by, t)), due[law]);
        }
        c.due("the one IN FORCE stays", x.status(1), 3);
    }

    private static void promise20Bad() {
        for (int law : new int[] {-1, 3, MIN, MAX}) {
            c.refused("strikesBy(" + law + ", 0) of three", Checks::some, x -> x.strikesBy(law, 0), -2);
        }
        for (int t : new int[] {-1, 4, 64, MIN, MAX}) {
            c.refused("strikesBy(0, " + t + ")", Checks::some, x -> x.strikesBy(0, t), -2);
        }
        c.refused("strikesBy(6, 0) of six", Checks::full, x -> x.strikesBy(6, 0), -2);
        c.refused("strikesBy(0, 40) of forty", Checks::full, x -> x.strikesBy(0, 40), -2);
        c.refused("strikesBy(0, 0) without laws", made("ring s"), x -> x.strikesBy(0, 0), -2);
        c.refused("strikesBy(0, 0) of no steps", made("law 0 0"), x -> x.strikesBy(0, 0), -2);
    }

    private static void struckBy(String law, String ring, long due) {
        AnsweredByTheDrowned x = Checks.of("law " + law + "; ring " + ring);
        c.due("law " + law + " in ring " + ring, Checks.bits(ring.length(), t -> x.strikesBy(0, t)), due);
    }

    private static void promise20LawAtAGap() {
        struckBy("0 0", "gsg", 0b101);
        struckBy("0 9", "gsg", 0b101);
        struckBy("0 5", "s", 0);
        struckBy("0 5", "g", 1);
        struckBy("0 0", GAPS, ALL_FORTY);
    }

    private static void promise20EchoOfAStrokeAheadOfIt() {
        struckBy("1 0", "s", 0);
        struckBy("1 0", "sg", 0b10);
        struckBy("1 0", "ss", 0b10);
        struckBy("1 2", "ssgggg", 0b011000);
        struckBy("1 9", "s".repeat(10), 0);
        struckBy("1 9", "s".repeat(11), 1 << 10);
        struckBy("1 9", "sgggggggggggs", 1 << 10);
        struckBy("1 9", STROKES, ALL_FORTY ^ 0x3FF);
    }

    private static void promise20LateLooksOneFarther() {
        struckBy("3 0", "ss", 0);
        struckBy("3 0", "sgg", 0b100);
        struckBy("3 0", "sss", 0b100);
        struckBy("3 2", "ssgggg", 0b110000);
        struckBy("3 9", "s".repeat(11), 0);
        struckBy("3 9", "s".repeat(12), 1 << 11);
        struckBy("3 9", "sgggggggggggs", 1 << 11);
        struckBy("3 9", STROKES, ALL_FORTY ^ 0x7FF);
    }

    private static void promise20GappedBehindGapsOnEnd() {
        struckBy("2 0", "gsg", 0b101);
        struckBy("2 1", "g", 0);
        struckBy("2 1", "gg", 0b10);
        struckBy("2 1", "ggs", 0b010);
        struckBy("2 2", "gggggsggg", 0b100011100);
        struckBy("2 9", "g".repeat(9), 0);
        struckBy("2 9", "g".repeat(10), 1 << 9);
        struckBy("2 9", "s" + "g".repeat(9), 0);
        struckBy("2 9", "s" + "g".repeat(10), 1 << 10);
        struckBy("2 9", "ggggggggsg", 0);
        struckBy("2 9", GAPS, ALL_FORTY ^ 0x1FF);
    }

    private static void promise20CounterByTheStrokesAhead() {
        struckBy("4 0", "gsg", 0b101);
        struckBy("4 1", "g", 1);
        struckBy("4 1", "s", 0);
        struckBy("4 1", "gsgsgsg", 0b0010001);
        struckBy("4 2", "gsgsgsg", 0b1000001);
        struckBy("4 9", "g" + "s".repeat(9) + "gg", 1);
        struckBy("4 9", "g" + "s".repeat(10) + "gg", 0b1100000000001);
        struckBy("4 9", "g" + "s".repeat(11) + "gg", 1);
        struckBy("4 9", "s".repeat(39) + "g", 0);
        struckBy("4 9", "s".repeat(30) + "g".repeat(10), 0x3FFL << 30);
    }

    private static void promise20HoursWhateverTheRingHas() {
        struckBy("5 0", "s", 1);
        struckBy("5 0", "g", 1);
        struckBy("5 0", "sgsgs", 0b10101);
        struckBy("5 0", "gsgsg", 0b10101);
        struckBy("5 9", "gggggggggggs", 1 << 11 | 1);
        struckBy("5 9", STROKES, 1L << 33 | 1L << 22 | 1L << 11 | 1);
    }

    // ---- 21: heard

    private static void heardBy(String text, int n, long heard, long both, long silent) {
        AnsweredByTheDrowned x = Checks.of(text);
        c.due("HEARD in " + text, Checks.bits(n, t -> x.heard(t, 0)), heard);
        c.due("BOTH in " + text, Checks.bits(n, t -> x.heard(t, 1)), both);
        c.due("SILENT in " + text, Checks.bits(n, t -> x.heard(t, 2)), silent);
    }

    private static void promise21HeardBothSilent() {
        heardBy("law 0 0; ring sgsgg", 5, 0b01101, 0, 0b10010);
        heardBy("law 0 0; ring sgsgg; depth 1", 5, 0b10101, 0b00100, 0b01010);
        heardBy("law 5 0; ring sgsgg; depth 0", 5, 0b10101, 0b00101, 0b01010);
        heardBy("law 0 0; law 1 0; use 1; ring sgsgg", 5, 0b01101, 0, 0b10010);
    }

    private static void promise21SmallestAndLargestDepth() {
        heardBy("law 0 0; ring sgsgg; depth 0", 5, 0b11111, 0, 0);
        heardBy("law 0 0; depth 9; ring " + "g".repeat(9), 9, 0, 0, 0x1FF);
        heardBy("law 0 0; depth 9; ring " + "g".repeat(10), 10, 1 << 9, 0, 0x1FF);
        heardBy("law 0 0; depth 9; ring " + GAPS, 40, ALL_FORTY ^ 0x1FF, 0, 0x1FF);
        heardBy("law 5 0; depth 0; ring " + STROKES, 40, ALL_FORTY, 0x5555555555L, 0);
    }

    private static void promise21MissesAsIfNoneWere() {
        heardBy("law 0 0; miss 100; ring gggggggggg; depth 9", 10, 1 << 9, 0, 0x1FF);
        AnsweredByTheDrowned x = Checks.of("law 0 0; miss 100; depth 0");
        c.due("ring(false), missed", x.ring(false), 0);
        c.due("heard(0, 0)", x.heard(0, 0), 1);
    }

    private static void promise21WithoutLawsItNeverStrikes() {
        heardBy("ring sgsgg", 5, 0b00101, 0, 0b11010);
        heardBy("depth 0; ring sgsgg", 5, 0b00101, 0, 0b11010);
    }

    private static void promise21Bad() {
        for (int t : new int[] {-1, 4, 64, MIN, MAX}) {
            c.refused("heard(" + t + ", 0)", Checks::some, x -> x.heard(t, 0), -2);
        }
        for (int what : new int[] {-1, 3, MIN, MAX}) {
            c.refused("heard(0, " + what + ")", Checks::some, x -> x.heard(0, what), -2);
        }
        c.refused("heard(40, 2) of forty", Checks::full, x -> x.heard(40, 2), -2);
        c.refused("heard(0, 0) of no steps", made("law 0 0"), x -> x.heard(0, 0), -2);
    }

    // ---- 22: all

    private static void counted(String text, int heard, int both, int silent) {
        AnsweredByTheDrowned x = Checks.of(text);
        c.due("all(0) of " + text, x.all(0), heard);
        c.due("all(1) of " + text, x.all(1), both);
        c.due("all(2) of " + text, x.all(2), silent);
    }

    private static void promise22HowMany() {
        counted("law 0 0; ring sgsgg; depth 1", 3, 1, 2);
        counted("ring ssg", 2, 0, 1);
        counted("", 0, 0, 0);
        counted("law 0 0; depth 0", 0, 0, 0);
        counted("law 0 0; ring " + GAPS, 38, 0, 2);
        counted("law 0 0; ring " + STROKES, 40, 0, 0);
        counted("law 5 0; depth 0; ring " + STROKES, 40, 20, 0);
        counted("ring " + GAPS, 0, 0, 40);
    }

    private static void promise22Bad() {
        for (int what : new int[] {-1, 3, MIN, MAX}) {
            c.refused("all(" + what + ")", Checks::some, x -> x.all(what), -2);
            c.refused("all(" + what + ") of no steps", NEW, x -> x.all(what), -2);
        }
    }

    // ---- 23: silent

    private static void promise23FirstFromOneOn() {
        AnsweredByTheDrowned x = Checks.of("law 0 0; ring sgsgg");
        c.due("silent(0)", x.silent(0), 1);
        c.due("silent(1)", x.silent(1), 1);
        c.due("silent(2)", x.silent(2), 4);
        c.due("silent(4)", x.silent(4), 4);
        AnsweredByTheDrowned y = Checks.of("ring " + GAPS);
        c.due("silent(0) of forty", y.silent(0), 0);
        c.due("silent(39) of forty", y.silent(39), 39);
    }

    private static void promise23NoneIsNotRefused() {
        c.asks("silent(0) of strokes", made("ring ss"), x -> x.silent(0), -1);
        c.asks("silent(2) behind the last", made("ring sgss"), x -> x.silent(2), -1);
        c.asks("silent(39) of forty strokes", made("ring " + STROKES), x -> x.silent(39), -1);
    }

    private static void promise23BadNoSuchStep() {
        for (int from : new int[] {-1, 4, 64, MIN, MAX}) {
            c.refused("silent(" + from + ")", made("ring sgsg"), x -> x.silent(from), -2);
        }
        c.refused("silent(40) of forty", made("ring " + GAPS), x -> x.silent(40), -2);
        c.refused("silent(0) of no steps", NEW, x -> x.silent(0), -2);
    }

    // ---- 24: run

    private static void runs(String text, int strokes, int gaps, int silent) {
        AnsweredByTheDrowned x = Checks.of(text);
        c.due("run(0) of " + text, x.run(0), strokes);
        c.due("run(1) of " + text, x.run(1), gaps);
        c.due("run(2) of " + text, x.run(2), silent);
    }

    private static void promise24Longest() {
        runs("law 1 0; depth 1; ring ssgggsssgg", 3, 3, 1);
        runs("ring sgggg", 1, 4, 4);
        runs("ring ssgss", 2, 1, 1);
        runs("ring sssgs", 3, 1, 1);
        runs("ring gggsg", 1, 3, 3);
        runs("law 0 0; ring gsgggggg", 1, 6, 1);
    }

    private static void promise24NoneAndAllForty() {
        runs("", 0, 0, 0);
        runs("ring s", 1, 0, 0);
        runs("ring g", 0, 1, 1);
        runs("ring " + STROKES, 40, 0, 0);
        runs("ring " + GAPS, 0, 40, 40);
        runs("law 0 0; depth 9; ring " + GAPS, 0, 40, 9);
    }

    private static void promise24Bad() {
        for (int what : new int[] {-1, 3, MIN, MAX}) {
            c.refused("run(" + what + ")", Checks::some, x -> x.run(what), -2);
            c.refused("run(" + what + ") of no steps", NEW, x -> x.run(what), -2);
        }
    }

    // ---- 25: loop

    private static void loops(String text, int... due) {
        AnsweredByTheDrowned x = Checks.of(text);
        for (int time = 0; time < due.length; time++) {
            c.due("loop(" + time + ") of " + text, x.loop(time), due[time]);
        }
    }

    private static void promise25OverTheSeam() {
        loops("law 0 0; ring sgg", 2, 2, 2);
        loops("law 1 0; ring gs", 0, 1, 1);
        loops("law 1 9; ring s", 0, 0, 0, 0, 0, 0, 0, 0, 0, 0, 1, 1);
        loops("law 3 9; ring s", 0, 0, 0, 0, 0, 0, 0, 0, 0, 0, 0, 1);
        loops("law 2 3; ring g", 0, 0, 0, 1, 1);
        loops("law 2 9; ring g", 0, 0, 0, 0, 0, 0, 0, 0, 0, 1, 1);
        loops("law 2 1; ring gsg", 0, 1, 1);
    }

    private static void promise25StepsGoOn() {
        loops("law 4 2; ring gs", 1, 0, 0, 1, 0, 0, 1);
        loops("law 4 2; ring sg", 0, 0, 1, 0, 0, 1);
        loops("law 4 3; ring sgssg", 0, 1, 0, 1, 0);
        loops("law 5 1; ring gsgg", 2, 1, 1, 2, 1, 1, 2);
    }

    private static void promise25FirstAndLastRepetition() {
        AnsweredByTheDrowned x = Checks.of("law 0 0; law 5 5; use 1; ring ssss");
        c.due("loop(0)", x.loop(0), 1);
        c.due("loop(59)", x.loop(59), 1);
        c.due("loop(60)", x.loop(60), 0);
        AnsweredByTheDrowned y = Checks.of("law 5 9; ring " + GAPS);
        c.due("loop(0) of forty", y.loop(0), 4);
        c.due("loop(2) of forty", y.loop(2), 3);
        c.due("loop(60) of forty", y.loop(60), 3);
        AnsweredByTheDrowned z = Checks.of("law 4 9; ring " + STROKES.substring(1) + "g");
        c.due("loop(0) of a counter", z.loop(0), 0);
        c.due("loop(9) of a counter", z.loop(9), 1);
        c.due("loop(59) of a counter", z.loop(59), 1);
        c.due("loop(60) of a counter", z.loop(60), 0);
    }

    private static void promise25NoSteps() {
        for (int law = 0; law < 6; law++) {
            String text = LAWS + "use " + law;
            c.asks("loop(0) without steps by " + law, made(text), x -> x.loop(0), 0);
            c.asks("loop(60) without steps by " + law, made(text), x -> x.loop(60), 0);
        }
    }

    private static void promise25BadAheadOfStuck() {
        for (int time : new int[] {-1, 61, MIN, MAX}) {
            c.refused("loop(" + time + ")", Checks::some, x -> x.loop(time), -2);
            c.refused("loop(" + time + ") without laws", made("ring s"), x -> x.loop(time), -2);
        }
        c.refused("loop(0) without laws", made("ring s"), x -> x.loop(0), -5);
        c.refused("loop(60) without laws", made("ring s"), x -> x.loop(60), -5);
        c.refused("loop(0) of a new object", NEW, x -> x.loop(0), -5);
    }

    // ---- 26: period

    private static void promise26LeastPeriod() {
        c.due("gggg", Checks.of("ring gggg").period(), 1);
        c.due("sgsgs", Checks.of("ring sgsgs").period(), 2);
        c.due("sggsg", Checks.of("ring sggsg").period(), 3);
        c.due("sggs", Checks.of("ring sggs").period(), 3);
        c.due("twenty twice", Checks.of("ring sssggggggggggggggggssssggggggggggggggggs").period(), 20);
    }

    private static void promise26NumberOfStepsIfNoneIsLess() {
        c.due("no steps", Checks.of("").period(), 0);
        c.due("s", Checks.of("ring s").period(), 1);
        c.due("g", Checks.of("ring g").period(), 1);
        c.due("sg", Checks.of("ring sg").period(), 2);
        c.due("ss", Checks.of("ring ss").period(), 1);
        c.due("sggg", Checks.of("ring sggg").period(), 4);
    }

    private static void promise26OfForty() {
        c.due("forty strokes", Checks.of("ring " + STROKES).period(), 1);
        c.due("forty gaps", Checks.of("ring " + GAPS).period(), 1);
        c.due("a stroke at the end", Checks.of("ring " + GAPS.substring(1) + "s").period(), 40);
        c.due("a stroke at both ends", Checks.of("ring s" + GAPS.substring(2) + "s").period(), 39);
        c.due("by two", Checks.of("ring " + "sg".repeat(20)).period(), 2);
    }

    // ---- 27: mirror

    private static void promise27EmptyAndOne() {
        c.due("no steps", Checks.of("").mirror(), 1);
        c.due("s", Checks.of("ring s").mirror(), 1);
        c.due("g", Checks.of("ring g").mirror(), 1);
    }

    private static void promise27ReadBackward() {
        c.due("ss", Checks.of("ring ss").mirror(), 1);
        c.due("sg", Checks.of("ring sg").mirror(), 0);
        c.due("sggs", Checks.of("ring sggs").mirror(), 1);
        c.due("sgs", Checks.of("ring sgs").mirror(), 1);
        c.due("sgg", Checks.of("ring sgg").mirror(), 0);
        c.due("sgsggs", Checks.of("ring sgsggs").mirror(), 0);
    }

    private static void promise27OfForty() {
        c.due("forty gaps", Checks.of("ring " + GAPS).mirror(), 1);
        c.due("a stroke at both ends", Checks.of("ring s" + GAPS.substring(2) + "s").mirror(), 1);
        c.due("a stroke at one end", Checks.of("ring s" + GAPS.substring(1)).mirror(), 0);
        c.due("other in the middle", Checks.of("ring " + "g".repeat(20) + "s" + "g".repeat(19)).mirror(), 0);
    }

    // ---- 28: lastStroke

    private static void promise28NoneIsNotRefused() {
        c.asks("no steps", NEW, x -> x.lastStroke(), -1);
        c.asks("ggg", made("ring ggg"), x -> x.lastStroke(), -1);
        c.asks("forty gaps", made("ring " + GAPS), x -> x.lastStroke(), -1);
    }

    private static void promise28FirstToLast() {
        c.due("sgg", Checks.of("ring sgg").lastStroke(), 0);
        c.due("sgsg", Checks.of("ring sgsg").lastStroke(), 2);
        c.due("ss", Checks.of("ring ss").lastStroke(), 1);
        c.due("forty strokes", Checks.of("ring " + STROKES).lastStroke(), 39);
        c.due("the last of forty", Checks.of("ring " + GAPS.substring(1) + "s").lastStroke(), 39);
    }

    // ---- 29: shift

    private static void promise29BegunAtAStep() {
        AnsweredByTheDrowned x = Checks.of("law 1 0; ring sggs");
        c.due("shift(0) of sggs", x.shift(0), 1);
        c.due("shift(1): ggss", x.shift(1), 1);
        c.due("shift(2): gssg", x.shift(2), 2);
        c.due("shift(3): ssgg", x.shift(3), 2);
        c.due("nothing is changed", Checks.bits(4, x::step), 0b1001);
        AnsweredByTheDrowned y = Checks.of("law 2 1; ring gggsg");
        c.due("shift(4): ggggs", y.shift(4), 3);
    }

    private static void promise29OfOneAndOfForty() {
        c.due("shift(0) of one", Checks.of("law 0 0; ring g").shift(0), 1);
        AnsweredByTheDrowned x = Checks.of("law 1 0; ring " + GAPS.substring(1) + "s");
        c.due("shift(0) of forty", x.shift(0), 0);
        c.due("shift(1) of forty", x.shift(1), 1);
        c.due("shift(39) of forty", x.shift(39), 1);
    }

    private static void promise29WithoutLaws() {
        c.asks("shift(0) without laws", made("ring sg"), x -> x.shift(0), 0);
        c.asks("shift(1) without laws", made("ring sg"), x -> x.shift(1), 0);
    }

    private static void promise29Bad() {
        for (int from : new int[] {-1, 4, 64, MIN, MAX}) {
            c.refused("shift(" + from + ")", Checks::some, x -> x.shift(from), -2);
        }
        c.refused("shift(40) of forty", Checks::full, x -> x.shift(40), -2);
        c.refused("shift(0) of no steps", made("law 1 0"), x -> x.shift(0), -2);
        c.refused("shift(2) without laws", made("ring sg"), x -> x.shift(2), -2);
    }

    // ---- 30: flip

    private static void promise30MostHeard() {
        c.asks("sgg without laws", made("ring sgg"), x -> x.flip(), 1);
        c.asks("ssg without laws", made("ring ssg"), x -> x.flip(), 2);
        c.asks("sgggs by an echo at depth 0", made("law 1 0; depth 0; ring sgggs"), x -> x.flip(), 2);
    }

    private static void promise30FirstOfSeveral() {
        c.asks("the first stroke, if all are", made("ring sss"), x -> x.flip(), 0);
        c.asks("sggg by an echo", made("law 1 0; depth 1; ring sggg"), x -> x.flip(), 1);
        // the first and the last alike: three steps are heard
        c.asks("gggg by a law at depth 1", made("law 0 0; depth 1; ring gggg"), x -> x.flip(), 0);
        c.asks("a stroke that keeps a counter", made("law 4 1; depth 0; ring sgggg"), x -> x.flip(), 0);
    }

    private static void promise30OfOneAndOfForty() {
        c.asks("s", made("ring s"), x -> x.flip(), 0);
        c.asks("g", made("ring g"), x -> x.flip(), 0);
        c.asks("a gap at the end of forty", made("ring " + STROKES.substring(1) + "g"), x -> x.flip(), 39);
        c.asks("forty strokes", made("ring " + STROKES), x -> x.flip(), 0);
    }

    private static void promise30StuckWithoutSteps() {
        c.refused("flip() of no steps", made("law 0 0"), x -> x.flip(), -5);
        c.refused("flip() of a new object", NEW, x -> x.flip(), -5);
    }

    // ---- 31: until

    private static void promise31HowFewSteps() {
        AnsweredByTheDrowned x = Checks.of("law 0 0; ring sgsgg");
        c.due("until(0)", x.until(0), 0);
        c.due("until(1)", x.until(1), 2);
        c.due("until(2)", x.until(2), 4);
        c.due("until(3)", x.until(3), 5);
        AnsweredByTheDrowned y = Checks.of("law 5 0; law 0 0; ring gsgs");
        c.due("until(2) by the one IN FORCE", y.until(2), 3);
    }

    private static void promise31SmallestAndLargest() {
        c.asks("until(0) of no steps", made("law 0 0"), x -> x.until(0), 0);
        c.asks("until(0) of a new object", NEW, x -> x.until(0), 0);
        c.asks("until(40) of forty gaps", made("law 0 0; ring " + GAPS), x -> x.until(40), 40);
        c.asks("until(39) of forty gaps", made("law 0 0; ring " + GAPS), x -> x.until(39), 39);
    }

    private static void promise31NoneIsNotRefused() {
        c.asks("until(4)", made("law 0 0; ring sgsgg"), x -> x.until(4), -1);
        c.asks("until(40)", made("law 0 0; ring sgsgg"), x -> x.until(40), -1);
        c.asks("until(40), struck 39 times", made("law 0 0; ring s" + GAPS.substring(1)), x -> x.until(40), -1);
        c.asks("until(1) without laws", made("ring g"), x -> x.until(1), -1);
        c.asks("until(1) of no steps", made("law 0 0"), x -> x.until(1), -1);
    }

    private static void promise31Bad() {
        for (int v : new int[] {-1, 41, MIN, MAX}) {
            c.refused("until(" + v + ")", Checks::full, x -> x.until(v), -2);
            c.refused("until(" + v + ") of a new object", NEW, x -> x.until(v), -2);
        }
    }
}
