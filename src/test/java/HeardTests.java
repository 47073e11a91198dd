import java.util.function.Supplier;

/** Promises 18 to 31: THE RING, what it strikes, and what is HEARD. */
public final class HeardTests {
    private static final Checks c = new Checks();

    /** One LAW of each KIND, numbered by it. */
    private static final String LAWS = "law 0 0; law 1 0; law 2 1; law 3 0; law 4 1; law 5 1; ";

    public static void main(String[] args) {
        step();
        strikes();
        strikesBy();
        strikesAtEdges();
        heard();
        all();
        silent();
        run();
        loop();
        period();
        mirror();
        lastStroke();
        shift();
        flip();
        until();
        c.finish();
    }

    private static Supplier<AnsweredByTheDrowned> made(String text) {
        return () -> Checks.of(text);
    }

    private static void step() {
        c.promise(18);
        AnsweredByTheDrowned x = Checks.of("ring sgs");
        c.due("step(0)", x.step(0), 1);
        c.due("step(1)", x.step(1), 0);
        c.due("step(2)", x.step(2), 1);
        c.refused("step(3)", made("ring sgs"), y -> y.step(3), -2);
        c.refused("step(-1)", made("ring sgs"), y -> y.step(-1), -2);
        c.refused("step(0) of no steps", made(""), y -> y.step(0), -2);
        c.refused("step(64)", made("ring sgs"), y -> y.step(64), -2);
    }

    private static void strikes() {
        c.promise(19);
        int[] due = {0b11010, 0b01010, 0b10000, 0b10100, 0b11000, 0b01001};
        AnsweredByTheDrowned x = Checks.of(LAWS + "ring sgsgg");
        for (int law = 0; law < 6; law++) {
            x.use(law);
            c.due("strikes by law " + law, Checks.bits(5, x::strikes), due[law]);
        }
        c.refused("strikes(5)", made(LAWS + "ring sgsgg"), y -> y.strikes(5), -2);
        c.refused("strikes(-1)", made(LAWS + "ring sgsgg"), y -> y.strikes(-1), -2);
        c.refused("strikes(0) without laws", made("ring s"), y -> y.strikes(0), -5);
        c.refused("strikes(1) without laws", made("ring s"), y -> y.strikes(1), -2);
    }

    private static void strikesBy() {
        c.promise(20);
        int[] due = {0b11010, 0b01010, 0b10000, 0b10100, 0b11000, 0b01001};
        AnsweredByTheDrowned x = Checks.of(LAWS + "use 3; ring sgsgg");
        for (int law = 0; law < 6; law++) {
            int by = law;
            c.due("strikes by law " + law, Checks.bits(5, t -> x.strikesBy(by, t)), due[law]);
        }
        c.refused("strikesBy(6, 0)", made(LAWS + "ring s"), y -> y.strikesBy(6, 0), -2);
        c.refused("strikesBy(-1, 0)", made(LAWS + "ring s"), y -> y.strikesBy(-1, 0), -2);
        c.refused("strikesBy(0, 1)", made(LAWS + "ring s"), y -> y.strikesBy(0, 1), -2);
        c.refused("strikesBy(0, -1)", made(LAWS + "ring s"), y -> y.strikesBy(0, -1), -2);
        c.refused("strikesBy(0, 0)", made("ring s"), y -> y.strikesBy(0, 0), -2);
    }

    private static void struckBy(String law, String ring, long due) {
        AnsweredByTheDrowned x = Checks.of("law " + law + "; ring " + ring);
        c.due("law " + law + " in ring " + ring, Checks.bits(ring.length(), t -> x.strikesBy(0, t)), due);
    }

    private static void strikesAtEdges() {
        struckBy("0 9", "gsg", 0b101);
        struckBy("1 9", "sggggggggggs", 1 << 10);
        struckBy("1 2", "ssgggg", 0b011000);
        struckBy("3 9", "sgggggggggggs", 1 << 11);
        struckBy("3 2", "ssgggg", 0b110000);
        struckBy("2 0", "gsg", 0b101);
        struckBy("2 2", "gggggsggg", 0b100011100);
        struckBy("2 9", "gggggggggggg", 0b111000000000);
        struckBy("4 0", "gsg", 0b101);
        struckBy("4 1", "gsgsgsg", 0b0010001);
        struckBy("4 2", "gsgsgsg", 0b1000001);
        struckBy("4 9", "gssssssssssgg", 0b1100000000001);
        struckBy("5 0", "sgsgs", 0b10101);
        struckBy("5 9", "gggggggggggs", 1 << 11 | 1);
    }

    private static void heardBy(String text, int n, long heard, long both, long silent) {
        AnsweredByTheDrowned x = Checks.of(text);
        c.due("HEARD in " + text, Checks.bits(n, t -> x.heard(t, 0)), heard);
        c.due("BOTH in " + text, Checks.bits(n, t -> x.heard(t, 1)), both);
        c.due("SILENT in " + text, Checks.bits(n, t -> x.heard(t, 2)), silent);
    }

    private static void heard() {
        c.promise(21);
        heardBy("law 0 0; ring sgsgg", 5, 0b01101, 0, 0b10010);
        heardBy("law 0 0; ring sgsgg; depth 0", 5, 0b11111, 0, 0);
        heardBy("law 0 0; ring sgsgg; depth 1", 5, 0b10101, 0b00100, 0b01010);
        heardBy("law 5 0; ring sgsgg; depth 0", 5, 0b10101, 0b00101, 0b01010);
        heardBy("law 0 0; law 1 0; use 1; ring sgsgg", 5, 0b01101, 0, 0b10010);
        heardBy("ring sgsgg", 5, 0b00101, 0, 0b11010);
        heardBy("law 0 0; miss 100; ring gggggggggg; depth 9", 10, 1 << 9, 0, 0b111111111);
        c.refused("heard(1, 0)", made("ring s"), y -> y.heard(1, 0), -2);
        c.refused("heard(-1, 0)", made("ring s"), y -> y.heard(-1, 0), -2);
        c.refused("heard(0, 3)", made("ring s"), y -> y.heard(0, 3), -2);
        c.refused("heard(0, -1)", made("ring s"), y -> y.heard(0, -1), -2);
    }

    private static void all() {
        c.promise(22);
        AnsweredByTheDrowned x = Checks.of("law 0 0; ring sgsgg; depth 1");
        c.due("all(0)", x.all(0), 3);
        c.due("all(1)", x.all(1), 1);
        c.due("all(2)", x.all(2), 2);
        AnsweredByTheDrowned y = Checks.of("ring ssg");
        c.due("all(0) without laws", y.all(0), 2);
        c.due("all(1) without laws", y.all(1), 0);
        c.due("all(2) without laws", y.all(2), 1);
        c.due("all(2) without steps", Checks.of("").all(2), 0);
        c.refused("all(3)", made("ring s"), z -> z.all(3), -2);
        c.refused("all(-1)", made("ring s"), z -> z.all(-1), -2);
    }

    private static void silent() {
        c.promise(23);
        AnsweredByTheDrowned x = Checks.of("law 0 0; ring sgsgg");
        c.due("silent(0)", x.silent(0), 1);
        c.due("silent(1)", x.silent(1), 1);
        c.due("silent(2)", x.silent(2), 4);
        c.due("silent(4)", x.silent(4), 4);
        c.due("silent(0) of strokes", Checks.of("ring ss").silent(0), -1);
        AnsweredByTheDrowned y = Checks.of("ring sgss");
        c.due("silent(2)", y.silent(2), -1);
        c.due("refusals", y.status(12), 0);
        c.refused("silent(4)", made("ring sgss"), z -> z.silent(4), -2);
        c.refused("silent(-1)", made("ring sgss"), z -> z.silent(-1), -2);
        c.refused("silent(0) of no steps", made(""), z -> z.silent(0), -2);
    }

    private static void run() {
        c.promise(24);
        AnsweredByTheDrowned x = Checks.of("law 1 0; depth 1; ring ssgggsssgg");
        c.due("run(0)", x.run(0), 3);
        c.due("run(1)", x.run(1), 3);
        c.due("run(2)", x.run(2), 1);
        AnsweredByTheDrowned y = Checks.of("ring sgggg");
        c.due("run(0)", y.run(0), 1);
        c.due("run(1) to the end", y.run(1), 4);
        c.due("run(2) without laws", y.run(2), 4);
        c.due("run(1) without steps", Checks.of("").run(1), 0);
        c.refused("run(3)", made("ring s"), z -> z.run(3), -2);
        c.refused("run(-1)", made("ring s"), z -> z.run(-1), -2);
    }

    private static void loops(String text, int... due) {
        AnsweredByTheDrowned x = Checks.of(text);
        for (int time = 0; time < due.length; time++) {
            c.due("loop(" + time + ") of " + text, x.loop(time), due[time]);
        }
    }

    private static void loop() {
        c.promise(25);
        loops("law 0 0; ring sgg", 2, 2, 2);
        loops("law 1 0; ring gs", 0, 1, 1);
        loops("law 1 9; ring s", 0, 0, 0, 0, 0, 0, 0, 0, 0, 0, 1, 1);
        loops("law 3 9; ring s", 0, 0, 0, 0, 0, 0, 0, 0, 0, 0, 0, 1);
        loops("law 2 3; ring g", 0, 0, 0, 1, 1);
        loops("law 2 1; ring gsg", 0, 1, 1);
        loops("law 4 2; ring gs", 1, 0, 0, 1, 0, 0, 1);
        loops("law 4 2; ring sg", 0, 0, 1, 0, 0, 1);
        loops("law 4 3; ring sgssg", 0, 1, 0, 1, 0);
        loops("law 5 1; ring gsgg", 2, 1, 1, 2, 1, 1, 2);
        AnsweredByTheDrowned x = Checks.of("law 0 0; law 5 5; use 1; ring ssss");
        c.due("loop(60)", x.loop(60), 0);
        c.due("loop(59)", x.loop(59), 1);
        c.due("loop(7) without steps", Checks.of("law 0 0").loop(7), 0);
        c.refused("loop(61)", made("law 0 0; ring s"), y -> y.loop(61), -2);
        c.refused("loop(-1)", made("law 0 0; ring s"), y -> y.loop(-1), -2);
        c.refused("loop(61) without laws", made("ring s"), y -> y.loop(61), -2);
        c.refused("loop(0) without laws", made("ring s"), y -> y.loop(0), -5);
    }

    private static void period() {
        c.promise(26);
        c.due("no steps", Checks.of("").period(), 0);
        c.due("one step", Checks.of("ring s").period(), 1);
        c.due("gggg", Checks.of("ring gggg").period(), 1);
        c.due("sgsgs", Checks.of("ring sgsgs").period(), 2);
        c.due("sggsg", Checks.of("ring sggsg").period(), 3);
        c.due("sggs", Checks.of("ring sggs").period(), 3);
        c.due("sggg", Checks.of("ring sggg").period(), 4);
        c.due("forty", Checks.of("ring gggggggggggggggggggggggggggggggggggggggs").period(), 40);
    }

    private static void mirror() {
        c.promise(27);
        c.due("no steps", Checks.of("").mirror(), 1);
        c.due("s", Checks.of("ring s").mirror(), 1);
        c.due("sggs", Checks.of("ring sggs").mirror(), 1);
        c.due("sgs", Checks.of("ring sgs").mirror(), 1);
        c.due("sgg", Checks.of("ring sgg").mirror(), 0);
        c.due("sgsggs", Checks.of("ring sgsggs").mirror(), 0);
    }

    private static void lastStroke() {
        c.promise(28);
        c.due("no steps", Checks.of("").lastStroke(), -1);
        c.due("ggg", Checks.of("ring ggg").lastStroke(), -1);
        c.due("sgg", Checks.of("ring sgg").lastStroke(), 0);
        c.due("sgsg", Checks.of("ring sgsg").lastStroke(), 2);
        c.due("forty", Checks.of("ring gggggggggggggggggggggggggggggggggggggggs").lastStroke(), 39);
    }

    private static void shift() {
        c.promise(29);
        AnsweredByTheDrowned x = Checks.of("law 1 0; ring sggs");
        c.due("shift(0) of sggs", x.shift(0), 1);
        c.due("shift(1): ggss", x.shift(1), 1);
        c.due("shift(2): gssg", x.shift(2), 2);
        c.due("shift(3): ssgg", x.shift(3), 2);
        c.due("nothing is changed", Checks.bits(4, x::step), 0b1001);
        AnsweredByTheDrowned y = Checks.of("law 2 1; ring gggsg");
        c.due("shift(4): ggggs", y.shift(4), 3);
        c.due("without laws", Checks.of("ring sg").shift(1), 0);
        c.refused("shift(4)", made("law 1 0; ring sggs"), z -> z.shift(4), -2);
        c.refused("shift(-1)", made("law 1 0; ring sggs"), z -> z.shift(-1), -2);
        c.refused("shift(0) of no steps", made("law 1 0"), z -> z.shift(0), -2);
    }

    private static void flip() {
        c.promise(30);
        c.due("the first gap", Checks.of("ring sgg").flip(), 1);
        c.due("the first stroke, if all are", Checks.of("ring sss").flip(), 0);
        c.due("sggg by an echo", Checks.of("law 1 0; depth 1; ring sggg").flip(), 1);
        // the first and the last alike: three steps are heard
        c.due("gggg by a law at depth 1", Checks.of("law 0 0; depth 1; ring gggg").flip(), 0);
        AnsweredByTheDrowned x = Checks.of("law 1 0; depth 0; ring sgggs");
        c.due("sgggs by an echo at depth 0", x.flip(), 2);
        c.due("a stroke that keeps a counter", Checks.of("law 4 1; depth 0; ring sgggg").flip(), 0);
        c.due("nothing is changed", Checks.bits(5, x::step), 0b10001);
        c.refused("flip() of no steps", made("law 0 0"), y -> y.flip(), -5);
    }

    private static void until() {
        c.promise(31);
        AnsweredByTheDrowned x = Checks.of("law 0 0; ring sgsgg");
        c.due("until(0)", x.until(0), 0);
        c.due("until(1)", x.until(1), 2);
        c.due("until(2)", x.until(2), 4);
        c.due("until(3)", x.until(3), 5);
        c.due("until(4)", x.until(4), -1);
        c.due("until(40)", x.until(40), -1);
        c.due("refusals", x.status(12), 0);
        c.due("until(0) without laws", Checks.of("ring g").until(0), 0);
        c.due("until(1) without laws", Checks.of("ring g").until(1), -1);
        c.due("until(40) of forty", Checks.of("law 0 0; ring gggggggggggggggggggggggggggggggggggggggg").until(40), 40);
        c.refused("until(41)", made("ring s"), y -> y.until(41), -2);
        c.refused("until(-1)", made("ring s"), y -> y.until(-1), -2);
    }
}
