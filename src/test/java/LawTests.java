import java.util.function.Supplier;

/** Promises 32 to 49: LAWS beside one another, what was told of what was heard, rings that are looked for. */
public final class LawTests {
    private static final Checks c = new Checks();

    /** In sgsgg they strike: 0 and 1 at 1, 3, 4; 2 at 1, 3; 3 at 0, 3; 4 at 4. */
    private static final String FIVE = "law 0 3; law 4 0; law 1 0; law 5 1; law 2 1; ring sgsgg";

    public static void main(String[] args) {
        sameAs();
        apart();
        parts();
        common();
        alone();
        busiest();
        lawFor();
        depths();
        differs();
        together();
        odds();
        expected();
        fits();
        toldRefused();
        next();
        loudest();
        plan();
        fill();
        round();
        c.finish();
    }

    private static Supplier<AnsweredByTheDrowned> made(String text) {
        return () -> Checks.of(text);
    }

    private static void sameAs() {
        c.promise(32);
        AnsweredByTheDrowned x = Checks.of(FIVE);
        int[] due = {0b00011, 0b00011, 0b00100, 0b01000, 0b10000};
        for (int law = 0; law < 5; law++) {
            c.due("sameAs(" + law + ")", x.sameAs(law), due[law]);
        }
        c.due("sameAs(2) in no steps", Checks.of("law 0 0; law 1 0; law 5 0").sameAs(2), 0b111);
        c.refused("sameAs(5)", made(FIVE), y -> y.sameAs(5), -2);
        c.refused("sameAs(-1)", made(FIVE), y -> y.sameAs(-1), -2);
    }

    private static void apart() {
        c.promise(33);
        AnsweredByTheDrowned x = Checks.of(FIVE);
        c.due("apart(0, 1)", x.apart(0, 1), -1);
        c.due("apart(0, 2)", x.apart(0, 2), 4);
        c.due("apart(2, 0)", x.apart(2, 0), 4);
        c.due("apart(0, 3)", x.apart(0, 3), 0);
        c.due("apart(0, 4)", x.apart(0, 4), 1);
        c.due("refusals", x.status(12), 0);
        c.refused("apart(0, 0)", made(FIVE), y -> y.apart(0, 0), -2);
        c.refused("apart(0, 5)", made(FIVE), y -> y.apart(0, 5), -2);
        c.refused("apart(5, 0)", made(FIVE), y -> y.apart(5, 0), -2);
        c.refused("apart(-1, 0)", made(FIVE), y -> y.apart(-1, 0), -2);
    }

    private static void parted(String laws, int steps, int bits) {
        AnsweredByTheDrowned x = Checks.of(laws);
        c.due("parts(0, 1, 0) of " + laws, x.parts(0, 1, 0), steps);
        c.due("parts(0, 1, 1) of " + laws, x.parts(0, 1, 1), bits);
        c.due("parts(1, 0, 0) of " + laws, x.parts(1, 0, 0), steps);
        c.due("parts(1, 0, 1) of " + laws, x.parts(1, 0, 1), bits);
        c.due("refusals", x.status(12), 0);
    }

    private static void parts() {
        c.promise(34);
        parted("law 0 0; law 0 5", -1, -1);
        parted("law 0 0; law 2 0", -1, -1);
        parted("law 1 3; law 3 2", -1, -1);
        parted("law 0 0; law 5 0", 1, 1);
        parted("law 0 0; law 2 1", 1, 0);
        parted("law 2 1; law 2 2", 2, 0);
        parted("law 0 0; law 4 1", 2, 1);
        parted("law 1 0; law 1 2", 2, 1);
        parted("law 4 1; law 4 3", 3, 3);
        parted("law 4 8; law 4 9", 10, 511);
        parted("law 2 8; law 2 9", 9, 0);
        parted("law 1 9; law 3 9", 11, 1);
        parted("law 5 8; law 5 9", 11, 0);
        c.refused("parts(0, 0, 0)", made(FIVE), y -> y.parts(0, 0, 0), -2);
        c.refused("parts(0, 5, 0)", made(FIVE), y -> y.parts(0, 5, 0), -2);
        c.refused("parts(-1, 0, 0)", made(FIVE), y -> y.parts(-1, 0, 0), -2);
        c.refused("parts(0, 1, 2)", made(FIVE), y -> y.parts(0, 1, 2), -2);
        c.refused("parts(0, 1, -1)", made(FIVE), y -> y.parts(0, 1, -1), -2);
    }

    private static void common() {
        c.promise(35);
        AnsweredByTheDrowned x = Checks.of(FIVE);
        c.due("common of none", x.common(0), 5);
        c.due("common(0b00001)", x.common(0b00001), 3);
        c.due("common(0b00101)", x.common(0b00101), 2);
        c.due("common(0b01101)", x.common(0b01101), 1);
        c.due("common(0b11111)", x.common(0b11111), 0);
        c.due("common of none in no steps", Checks.of("").common(0), 0);
        c.refused("common(0b100000)", made(FIVE), y -> y.common(0b100000), -2);
        c.refused("common(-1)", made(FIVE), y -> y.common(-1), -2);
        c.refused("common(1) without laws", made(""), y -> y.common(1), -2);
    }

    private static void alone() {
        c.promise(36);
        AnsweredByTheDrowned x = Checks.of(FIVE);
        int[] due = {0, 0, 0, 1, 0};
        for (int law = 0; law < 5; law++) {
            c.due("alone(" + law + ")", x.alone(law), due[law]);
        }
        c.due("the only law", Checks.of("law 0 0; ring sgg").alone(0), 2);
        c.refused("alone(5)", made(FIVE), y -> y.alone(5), -2);
        c.refused("alone(-1)", made(FIVE), y -> y.alone(-1), -2);
    }

    private static void busiest() {
        c.promise(37);
        c.due("of several the first", Checks.of(FIVE).busiest(), 0);
        c.due("the last", Checks.of("law 2 1; law 1 0; law 0 3; ring sgsgg").busiest(), 2);
        c.due("in no steps", Checks.of("law 2 1; law 1 0").busiest(), 0);
        c.refused("busiest() without laws", made("ring s"), y -> y.busiest(), -5);
    }

    private static void lawFor() {
        c.promise(38);
        AnsweredByTheDrowned x = Checks.of("law 0 0; law 2 1; law 1 0; law 5 0");
        c.due("lawFor(2, 0b10)", x.lawFor(2, 0b10), 1);
        c.due("lawFor(3, 0b111)", x.lawFor(3, 0b111), 0);
        c.due("lawFor(4, 0b0101)", x.lawFor(4, 0b0101), 3);
        c.due("lawFor(4, 0b1010)", x.lawFor(4, 0b1010), 0);
        c.due("lawFor(3, 0b010)", x.lawFor(3, 0b010), 1);
        c.due("lawFor(1, 0)", x.lawFor(1, 0), 1);
        c.due("a plan of strokes alone", Checks.of("law 0 0").lawFor(2, 0), 0);
        AnsweredByTheDrowned y = Checks.of("law 5 0");
        c.due("none has one", y.lawFor(2, 0b10), -1);
        c.due("refusals", y.status(12), 0);
        c.due("without laws", Checks.of("").lawFor(12, 4095), -1);
        c.refused("lawFor(0, 0)", made("law 0 0"), z -> z.lawFor(0, 0), -2);
        c.refused("lawFor(13, 0)", made("law 0 0"), z -> z.lawFor(13, 0), -2);
        c.refused("lawFor(2, 4)", made("law 0 0"), z -> z.lawFor(2, 4), -2);
        c.refused("lawFor(2, -1)", made("law 0 0"), z -> z.lawFor(2, -1), -2);
    }

    private static AnsweredByTheDrowned told(String text, long... heard) {
        AnsweredByTheDrowned x = Checks.of(text);
        Checks.put(x, 0, heard);
        return x;
    }

    private static void depths() {
        c.promise(39);
        c.due("sgsgg at 0", told("law 0 0; ring sgsgg", 1, 1, 1, 1, 1).depths(0), 1);
        c.due("sgsgg at 2", told("law 0 0; ring sgsgg; depth 9", 1, 0, -7, 1, 0).depths(0), 1 << 2);
        c.due("sgsgg at 4 and more", told("law 0 0; ring sgsgg", 1, 0, 1, 0, 0, 9).depths(0), 0b1111110000);
        c.due("sgsgg at none", told("law 0 0; ring sgsgg", 0, 0, 0, 0, 0).depths(0), 0);
        c.due("without laws", told("ring sg", 1, 0).depths(0), 1023);
        c.due("without laws, otherwise", told("ring sg", 1, 1).depths(0), 0);
        c.due("without steps", told("").depths(0), 1023);
    }

    private static void differs() {
        c.promise(40);
        c.due("heard so", told("law 0 0; ring sgsgg", 1, 0, 5, 1, 0).differs(0), 0);
        c.due("heard otherwise", told("law 0 0; ring sgsgg", 0, 1, 0, 0, 1).differs(0), 5);
        c.due("more elements", told("law 0 0; ring sgsgg", 1, 1, 1, 1, 1, 1, 1).differs(0), 2);
        c.due("without laws", told("ring sg", 1, 1).differs(0), 1);
    }

    private static void together() {
        c.promise(41);
        c.due("the new object", Checks.of("").together(), 0);
        c.due("sgsgg", Checks.of("law 0 0; ring sgsgg; depth 7").together(), 1);
        c.due("ggsss", Checks.of("law 0 0; ring ggsss").together(), 2);
        c.due("gsggsgsggs", Checks.of("law 0 0; ring gsggsgsggs; depth 0").together(), 1);
        c.due("gggggggggs", Checks.of("law 5 9; ring gggggggggs").together(), 9);
        c.due("of several the least", Checks.of("law 5 9; ring ggsgs").together(), 2);
    }

    private static void odds() {
        c.promise(42);
        c.due("miss 0", Checks.of("law 0 0; ring ggg").odds(), 1000000);
        c.due("miss 10", Checks.of("law 0 0; ring gsgg; miss 10").odds(), 729000);
        c.due("miss 37, cut", Checks.of("law 0 0; ring ggggg; miss 37").odds(), 99243);
        c.due("miss 10, cut after each", Checks.of("law 0 0; ring gggggggg; miss 10").odds(), 430466);
        c.due("miss 99", Checks.of("law 0 0; ring gggg; miss 99").odds(), 0);
        c.due("miss 100", Checks.of("law 0 0; ring g; miss 100").odds(), 0);
        c.due("never striking", Checks.of("law 0 0; ring s; miss 100").odds(), 1000000);
        c.due("without laws", Checks.of("ring gg; miss 50").odds(), 1000000);
    }

    private static void expected() {
        c.promise(43);
        c.due("miss 0", Checks.of("law 0 0; ring gsg").expected(), 2000);
        c.due("miss 33", Checks.of("law 0 0; ring gsg; miss 33").expected(), 1340);
        c.due("miss 100", Checks.of("law 0 0; ring gsg; miss 100").expected(), 0);
        c.due("without laws", Checks.of("ring gsg").expected(), 0);
    }

    private static void fits() {
        c.promise(44);
        c.due("sgsgg heard at 0, 2, 3", told(FIVE, 1, 0, 1, 1, 0).fits(0), 0b00111);
        c.due("sgsgg heard at 0, 2", told(FIVE, 1, 0, 1, 0, 0).fits(0), 0b11000);
        c.due("others than 1, and more of them", told(FIVE, -1, 0, 1L << 20, 0, 0, 3, 3).fits(0), 0b11000);
        c.due("depth 0", told(FIVE + "; depth 0", 1, 1, 1, 1, 0).fits(0), 0b00100);
        c.due("none", told(FIVE, 0, 0, 0, 0, 0).fits(0), 0);
        c.due("without laws", told("ring s", 1).fits(0), 0);
        c.due("without steps", told("law 0 0; law 1 0").fits(0), 3);
    }

    /** Shelves: 0 a ROW of one, 1 a LAW, 2 NOTHING; THE RING has two STEPS. */
    private static AnsweredByTheDrowned tooFew() {
        AnsweredByTheDrowned x = told("law 0 0; ring sg", 1);
        x.show(1, 0);
        return x;
    }

    private static void toldRefused() {
        Supplier<AnsweredByTheDrowned> made = LawTests::tooFew;
        int[][] cases = {{0, -2}, {1, -3}, {2, -4}, {8, -2}, {-1, -2}};
        for (int[] one : cases) {
            int s = one[0];
            c.promise(39);
            c.refused("depths(" + s + ")", made, x -> x.depths(s), one[1]);
            c.promise(40);
            c.refused("differs(" + s + ")", made, x -> x.differs(s), one[1]);
            c.promise(44);
            c.refused("fits(" + s + ")", made, x -> x.fits(s), one[1]);
        }
    }

    private static void next() {
        c.promise(45);
        AnsweredByTheDrowned x = Checks.of(FIVE);
        // behind sgsgg: a gap is struck by 0, 1 and 4, by neither 2 (a stroke at 4) nor 3; a stroke by none
        c.due("next(0b11111, 0)", x.next(0b11111, 0), 0);
        c.due("next(0b11111, 1)", x.next(0b11111, 1), 2);
        c.due("next(0b00011, 1)", x.next(0b00011, 1), 0);
        c.due("next(0b00011, 0)", x.next(0b00011, 0), 0);
        c.due("next(0, 1)", x.next(0, 1), 0);
        c.due("one would strike, two not", x.next(0b01101, 1), 1);
        c.due("two would strike, one not", x.next(0b00111, 1), 1);
        // behind gs: hours 0 strikes whatever comes, gap 0 at a gap alone: by a stroke they part
        AnsweredByTheDrowned y = Checks.of("law 0 0; law 5 0; ring gs");
        c.due("a stroke parts", y.next(0b11, 0), 1);
        c.due("a stroke parts", y.next(0b11, 1), 1);
        c.due("a gap, if alike", Checks.of("law 1 0; law 1 1; ring gs").next(0b11, 0), 0);
        c.due("a gap, if alike", Checks.of("law 1 0; law 1 1; ring gs").next(0b11, 1), 1);
        String full = "law 0 0; ring ssssssssssssssssssssssssssssssssssssssss";
        c.due("behind 39", Checks.of(full.substring(0, full.length() - 1)).next(1, 0), 0);
        c.refused("next(1, 0) of forty", made(full), z -> z.next(1, 0), -6);
        c.refused("next(2, 0) of forty", made(full), z -> z.next(2, 0), -2);
        c.refused("next(32, 0)", made(FIVE), z -> z.next(32, 0), -2);
        c.refused("next(-1, 0)", made(FIVE), z -> z.next(-1, 0), -2);
        c.refused("next(1, 2)", made(FIVE), z -> z.next(1, 2), -2);
        c.refused("next(1, -1)", made(FIVE), z -> z.next(1, -1), -2);
    }

    private static void loudest() {
        c.promise(46);
        AnsweredByTheDrowned x = Checks.of("law 1 0; depth 1");
        c.due("loudest(3, 0)", x.loudest(3, 0), 0);
        c.due("loudest(3, 1)", x.loudest(3, 1), 0b001);
        c.due("loudest(5, 2)", x.loudest(5, 2), 0b00011);
        c.due("loudest(3, 3)", x.loudest(3, 3), 0b111);
        c.due("loudest(1, 1)", x.loudest(1, 1), 1);
        c.due("loudest(12, 12)", x.loudest(12, 12), 4095);
        AnsweredByTheDrowned y = Checks.of("law 0 0; depth 1; ring sssss");
        c.due("loudest(4, 1)", y.loudest(4, 1), 0b0001);
        c.due("loudest(4, 2)", y.loudest(4, 2), 0b0011);
        AnsweredByTheDrowned z = Checks.of("law 5 1; depth 0");
        c.due("loudest(5, 2)", z.loudest(5, 2), 0b00110);
        c.refused("loudest(0, 0)", made("law 0 0"), w -> w.loudest(0, 0), -2);
        c.refused("loudest(13, 0)", made("law 0 0"), w -> w.loudest(13, 0), -2);
        c.refused("loudest(3, 4)", made("law 0 0"), w -> w.loudest(3, 4), -2);
        c.refused("loudest(3, -1)", made("law 0 0"), w -> w.loudest(3, -1), -2);
        c.refused("loudest(3, 4) without laws", made(""), w -> w.loudest(3, 4), -2);
        c.refused("loudest(3, 1) without laws", made(""), w -> w.loudest(3, 1), -5);
    }

    private static void plan() {
        c.promise(47);
        AnsweredByTheDrowned x = Checks.of("law 0 0; law 1 0; law 4 1; law 2 1; use 1; ring gggg");
        c.due("an echo's plan", x.plan(4, 0b1010), 0b0101);
        c.due("never at 0 by an echo", x.plan(4, 0b0001), -1);
        c.due("an echo of nothing", x.plan(4, 0), 0);
        c.due("an echo of nothing in one step", x.plan(1, 0), 0);
        x.use(0);
        c.due("a gap's plan", x.plan(4, 0b1010), 0b0101);
        c.due("a gap's plan of twelve", x.plan(12, 0), 4095);
        x.use(2);
        c.due("a counter's plan", x.plan(3, 0), 0b001);
        c.due("a counter's other plan", x.plan(3, 0b001), 0b010);
        x.use(3);
        c.due("fewest strokes, then the least", x.plan(4, 0), 0b0101);
        c.due("refusals", x.status(12), 0);
        triedRefused("plan", (y, n, bits) -> y.plan(n, bits));
    }

    private interface Tried {
        int answer(AnsweredByTheDrowned x, int n, int bits);
    }

    private static void triedRefused(String name, Tried tried) {
        int[][] bad = {{0, 0}, {13, 0}, {-1, 0}, {2, 4}, {2, -1}, {12, 4096}};
        for (int[] one : bad) {
            String call = name + "(" + one[0] + ", " + one[1] + ")";
            c.refused(call, made("law 0 0"), x -> tried.answer(x, one[0], one[1]), -2);
            c.refused(call + " without laws", made(""), x -> tried.answer(x, one[0], one[1]), -2);
        }
        c.refused(name + "(2, 1) without laws", made("ring s"), x -> tried.answer(x, 2, 1), -5);
    }

    private static void fill() {
        c.promise(48);
        AnsweredByTheDrowned x = Checks.of("law 0 0; law 1 0; use 1; depth 1");
        c.due("a stroke sounds twice", x.fill(5, 0b00101), 0b00001);
        c.due("all four", x.fill(4, 0b1111), 0b0011);
        c.due("nothing", x.fill(4, 0), 0);
        c.due("not without its echo", x.fill(4, 0b0001), -1);
        c.due("one step", x.fill(1, 1), 1);
        x.ask(0, 0);
        c.due("of two alike the least", x.fill(3, 0b111), 0b011);
        x.ask(0, 9);
        c.due("strokes alone", x.fill(3, 0b111), 0b111);
        x.ask(0, 1);
        x.use(0);
        c.due("a gap sounds one later", x.fill(3, 0b110), 0);
        c.due("a stroke keeps the next silent", x.fill(3, 0b101), 0b001);
        x.ask(0, 0);
        c.due("all are heard at depth 0", x.fill(12, 4095), 0);
        c.due("none is silent at depth 0", x.fill(3, 0b011), -1);
        c.due("refusals", x.status(12), 0);
        triedRefused("fill", (y, n, bits) -> y.fill(n, bits));
    }

    private static void round() {
        c.promise(49);
        c.due("gaps", Checks.of("law 0 0; ring sgg").round(), 1);
        c.due("an echo over the seam", Checks.of("law 1 0; ring gs").round(), 2);
        c.due("an echo of ten ahead", Checks.of("law 1 9; ring sgsg").round(), 1);
        c.due("a counter of three", Checks.of("law 4 2; ring gs").round(), 2);
        c.due("a counter of two", Checks.of("law 4 1; ring gs").round(), -1);
        c.due("a counter of ten", Checks.of("law 4 9; ring gss").round(), 2);
        c.due("hours that fit", Checks.of("law 5 2; ring ssss").round(), 1);
        c.due("hours that don't", Checks.of("law 5 1; ring sssss").round(), -1);
        c.due("gaps on end over the seam", Checks.of("law 2 2; ring gsgg").round(), 2);
        AnsweredByTheDrowned x = Checks.of("law 5 1; ring sssss");
        x.round();
        c.due("refusals", x.status(12) + x.status(15), 0);
        c.refused("round() without laws", made("ring s"), y -> y.round(), -5);
        c.refused("round() without steps", made("law 0 0"), y -> y.round(), -5);
    }
}
