import java.util.function.Consumer;
import java.util.function.Supplier;

/**
 * Promises 2 to 70, each in the midst of things: what it answers where the LAW IN FORCE isn't the first, the DEPTH isn't
 * that of a new object, a MISS was told and something else is kept; and just what becomes other by it.
 */
public final class MidstTests {
    private static final Checks c = new Checks();

    /**
     * LAWS 0 HOURS of 0 (strikes at 0, 2), 1 GAPPED of 1 (never), 2 COUNTER of 1, IN FORCE (at 0, 3); DEPTH 1; MISS 50;
     * THE RING gssg: 1 is BOTH, 2 a STROKE, 0 and 3 are SILENT; AGES 70 and 20; SEED 99. SHELF 0 has the ints 1 0 1 0 5,
     * 1 booleans, but none, 2 LAW 0, 3 LAW 2. THE TAPE is "law 0 0;still".
     */
    private static final Supplier<AnsweredByTheDrowned> SOME = Checks::some;
    private static final Supplier<AnsweredByTheDrowned> BY_HOURS = someThat(x -> x.use(0));
    private static final Supplier<AnsweredByTheDrowned> BY_GAPPED = someThat(x -> x.use(1));

    public static void main(String[] args) {
        c.run(MidstTests.class);
    }

    private static Supplier<AnsweredByTheDrowned> someThat(Consumer<AnsweredByTheDrowned> done) {
        return () -> {
            AnsweredByTheDrowned x = Checks.some();
            done.accept(x);
            return x;
        };
    }

    /** SHELF 4 tells that STEPS 1 and 2 are HEARD, as they are. */
    private static AnsweredByTheDrowned toldOnFour() {
        AnsweredByTheDrowned x = Checks.some();
        Checks.put(x, 4, 0, 1, -3, 0);
        return x;
    }

    // ---- shelves

    private static void promise02InTheMidst() {
        c.changes("row(1, 0, 2)", SOME, x -> x.row(1, 0, 2), 1,
                "shelf 1 4 -> 0; element 1 0 null -> 0; element 1 1 null -> 0");
        c.changes("row(0, 2, 4)", SOME, x -> x.row(0, 2, 4), 1,
                "element 0 0 1 -> 0; element 0 2 1 -> 0; element 0 4 5 -> null");
        c.changes("row(3, 3, 0)", SOME, x -> x.row(3, 3, 0), 1, "shelf 3 12 -> 3");
    }

    private static void promise03InTheMidst() {
        c.changes("set(0, 1, 6)", SOME, x -> x.set(0, 1, 6), 1, "element 0 1 0 -> 6");
        c.changes("set(0, 0, 1) as it was", SOME, x -> x.set(0, 0, 1), 1, "");
    }

    private static void promise04InTheMidst() {
        c.changes("copy(0, 0, 3, 0, 2)", SOME, x -> x.copy(0, 0, 3, 0, 2), 2, "element 0 0 1 -> 0; element 0 1 0 -> 5");
        c.changes("copy(4, 0, 1, 3, 2)", MidstTests::toldOnFour, x -> x.copy(4, 0, 1, 3, 2), 2,
                "element 0 3 0 -> 1; element 0 4 5 -> -3");
    }

    private static void promise05InTheMidst() {
        c.asks("element(0, 4)", SOME, x -> x.element(0, 4), 5);
    }

    private static void promise06InTheMidst() {
        c.asks("holds(0)", SOME, x -> x.holds(0), 2);
        c.asks("holds(1)", SOME, x -> x.holds(1), 4);
        c.asks("holds(3)", SOME, x -> x.holds(3), 12);
    }

    private static void promise07InTheMidst() {
        c.changes("show(0, 1)", SOME, x -> x.show(0, 1), 1, "shelf 0 2 -> 11; element 0 0 1 -> null;"
                + " element 0 1 0 -> null; element 0 2 1 -> null; element 0 3 0 -> null; element 0 4 5 -> null");
        c.changes("show(3, NONE)", SOME, x -> x.show(3, -1), 1, "shelf 3 12 -> -1");
    }

    private static void promise08InTheMidst() {
        c.asks("says(3, 0)", SOME, x -> x.says(3, 0), 1);
        c.asks("says(3, 2)", SOME, x -> x.says(3, 2), 2);
        c.asks("says(2, 5)", someThat(x -> x.cut(2)), x -> x.says(2, 5), 1);
    }

    // ---- what there is

    private static void promise09InTheMidst() {
        c.changes("law(3, 7)", SOME, x -> x.law(3, 7), 3, "laws 3 -> 4; kind 3 null -> 3; a 3 null -> 7");
    }

    private static void promise10InTheMidst() {
        c.changes("use(1)", SOME, x -> x.use(1), 2, "in force 2 -> 1");
    }

    private static void promise11InTheMidst() {
        c.changes("ask(0, 7)", SOME, x -> x.ask(0, 7), 1, "depth 1 -> 7");
        c.changes("ask(1, 100)", SOME, x -> x.ask(1, 100), 50, "miss 50 -> 100");
    }

    private static void promise12InTheMidst() {
        c.changes("person(33)", SOME, x -> x.person(33), 2, "people 2 -> 3; ages 90 -> 123; age 2 null -> 33");
    }

    private static void promise13InTheMidst() {
        c.changes("feed('x')", SOME, x -> x.feed('x'), 14, "tape 13 -> 14; read 2 -> -28");
    }

    private static void promise14InTheMidst() {
        c.changes("wipe()", SOME, x -> x.wipe(), 13, "tape 13 -> 0; read 2 -> -20");
    }

    private static void promise15InTheMidst() {
        c.changes("lake()", SOME, x -> x.lake(), 2, "laws 3 -> 4; steps 4 -> 0; strokes 2 -> 0; step 0 0 -> null;"
                + " step 1 1 -> null; step 2 1 -> null; step 3 0 -> null; tape 13 -> 0; read 2 -> -20;"
                + " kind 3 null -> 0; a 3 null -> 0");
        c.changes("another lake", someThat(x -> x.wipe()), x -> Checks.read(x, "use 1;depth 4;miss 7;person 8;ring sg"),
                5, "in force 2 -> 1; depth 1 -> 4; miss 50 -> 7; steps 4 -> 6; strokes 2 -> 3; people 2 -> 3;"
                + " ages 90 -> 98; step 4 null -> 1; step 5 null -> 0; age 2 null -> 8");
    }

    private static void promise16InTheMidst() {
        c.asks("lawOf(2, 0)", SOME, x -> x.lawOf(2, 0), 4);
        c.asks("lawOf(2, 1)", SOME, x -> x.lawOf(2, 1), 1);
    }

    private static void promise17InTheMidst() {
        c.asks("age(0)", SOME, x -> x.age(0), 70);
        c.asks("age(1)", SOME, x -> x.age(1), 20);
    }

    // ---- what is heard

    private static void promise18InTheMidst() {
        c.asks("step(1)", SOME, x -> x.step(1), 1);
        c.asks("step(3)", SOME, x -> x.step(3), 0);
    }

    private static void promise19InTheMidst() {
        c.asks("strikes(2)", SOME, x -> x.strikes(2), 0);
        c.asks("strikes(3)", SOME, x -> x.strikes(3), 1);
    }

    private static void promise20InTheMidst() {
        c.asks("strikesBy(0, 2)", SOME, x -> x.strikesBy(0, 2), 1);
        c.asks("strikesBy(1, 3)", SOME, x -> x.strikesBy(1, 3), 0);
    }

    private static void promise21InTheMidst() {
        c.asks("heard(1, 1)", SOME, x -> x.heard(1, 1), 1);
        c.asks("heard(2, 1)", SOME, x -> x.heard(2, 1), 0);
        c.asks("heard(3, 0)", SOME, x -> x.heard(3, 0), 0);
        c.asks("heard(3, 2)", SOME, x -> x.heard(3, 2), 1);
    }

    private static void promise22InTheMidst() {
        c.asks("all(0)", SOME, x -> x.all(0), 2);
        c.asks("all(1)", SOME, x -> x.all(1), 1);
        c.asks("all(2)", SOME, x -> x.all(2), 2);
        c.asks("all(1) by a GAPPED", BY_GAPPED, x -> x.all(1), 0);
        c.asks("all(2) at depth 0", someThat(x -> x.ask(0, 0)), x -> x.all(2), 0);
    }

    private static void promise23InTheMidst() {
        c.asks("silent(0)", SOME, x -> x.silent(0), 0);
        c.asks("silent(1)", SOME, x -> x.silent(1), 3);
        c.asks("silent(1) by HOURS", BY_HOURS, x -> x.silent(1), -1);
        c.asks("silent(1) at depth 3", someThat(x -> x.ask(0, 3)), x -> x.silent(1), -1);
    }

    private static void promise24InTheMidst() {
        c.asks("run(0)", SOME, x -> x.run(0), 2);
        c.asks("run(1)", SOME, x -> x.run(1), 1);
        c.asks("run(2)", SOME, x -> x.run(2), 1);
        c.asks("run(2) of ggg", someThat(x -> Checks.read(x, ";ring ggg")), x -> x.run(2), 1);
        c.asks("run(2) of ggg by a GAPPED", someThat(x -> Checks.read(x, ";ring ggg;use 1")), x -> x.run(2), 2);
        c.asks("run(2) of ggg at depth 3", someThat(x -> Checks.read(x, ";ring ggg;depth 3")), x -> x.run(2), 3);
    }

    private static void promise25InTheMidst() {
        c.asks("loop(0)", SOME, x -> x.loop(0), 2);
        c.asks("loop(60)", SOME, x -> x.loop(60), 2);
        c.asks("loop(1) by a GAPPED", BY_GAPPED, x -> x.loop(1), 1);
    }

    private static void promise26InTheMidst() {
        c.asks("period()", SOME, x -> x.period(), 3);
    }

    private static void promise27InTheMidst() {
        c.asks("mirror()", SOME, x -> x.mirror(), 1);
        c.asks("mirror() of sssg", someThat(x -> x.change(0)), x -> x.mirror(), 0);
    }

    private static void promise28InTheMidst() {
        c.asks("lastStroke()", SOME, x -> x.lastStroke(), 2);
    }

    private static void promise29InTheMidst() {
        c.asks("shift(0)", SOME, x -> x.shift(0), 2);
        c.asks("shift(1)", SOME, x -> x.shift(1), 2);
        c.asks("shift(2)", SOME, x -> x.shift(2), 0);
        c.asks("shift(1) by a GAPPED", BY_GAPPED, x -> x.shift(1), 1);
    }

    private static void promise30InTheMidst() {
        c.asks("flip()", SOME, x -> x.flip(), 0);
        c.asks("flip() of ssss", someThat(x -> Checks.read(x, ";ring ssss")), x -> x.flip(), 0);
        c.asks("flip() of ssss by HOURS", someThat(x -> Checks.read(x, ";ring ssss;use 0")), x -> x.flip(), 1);
        c.asks("flip() of ssss by HOURS at depth 0", someThat(x -> Checks.read(x, ";ring ssss;use 0;depth 0")),
                x -> x.flip(), 0);
    }

    private static void promise31InTheMidst() {
        c.asks("until(1)", SOME, x -> x.until(1), 1);
        c.asks("until(2)", SOME, x -> x.until(2), 4);
        c.asks("until(3)", SOME, x -> x.until(3), -1);
        c.asks("until(2) by HOURS", BY_HOURS, x -> x.until(2), 3);
    }

    // ---- laws beside one another

    private static void promise32InTheMidst() {
        c.asks("sameAs(0)", SOME, x -> x.sameAs(0), 0b001);
        c.asks("sameAs(0) in gs", someThat(x -> x.cut(2)), x -> x.sameAs(0), 0b101);
    }

    private static void promise33InTheMidst() {
        c.asks("apart(0, 2)", SOME, x -> x.apart(0, 2), 2);
        c.asks("apart(1, 2)", SOME, x -> x.apart(1, 2), 0);
    }

    private static void promise34InTheMidst() {
        c.asks("parts(0, 2, 0)", SOME, x -> x.parts(0, 2, 0), 1);
        c.asks("parts(0, 2, 1)", SOME, x -> x.parts(0, 2, 1), 1);
    }

    private static void promise35InTheMidst() {
        c.asks("common(0b101)", SOME, x -> x.common(0b101), 1);
        c.asks("common(0b111)", SOME, x -> x.common(0b111), 0);
    }

    private static void promise36InTheMidst() {
        c.asks("alone(2)", SOME, x -> x.alone(2), 1);
    }

    private static void promise37InTheMidst() {
        c.asks("busiest()", SOME, x -> x.busiest(), 0);
        c.asks("busiest() of ggg", someThat(x -> Checks.read(x, ";ring ggg")), x -> x.busiest(), 2);
    }

    private static void promise38InTheMidst() {
        c.asks("lawFor(2, 0b01)", SOME, x -> x.lawFor(2, 0b01), 0);
        c.asks("lawFor(3, 0b100)", SOME, x -> x.lawFor(3, 0b100), 1);
    }

    // ---- what was told

    private static void promise39InTheMidst() {
        c.asks("depths(4)", MidstTests::toldOnFour, x -> x.depths(4), 0b1111110110);
        c.asks("depths(0)", SOME, x -> x.depths(0), 0);
    }

    private static void promise40InTheMidst() {
        c.asks("differs(4)", MidstTests::toldOnFour, x -> x.differs(4), 0);
        c.asks("differs(0)", SOME, x -> x.differs(0), 2);
        c.asks("differs(0) by HOURS", BY_HOURS, x -> x.differs(0), 3);
        c.asks("differs(0) at depth 3", someThat(x -> x.ask(0, 3)), x -> x.differs(0), 3);
    }

    private static void promise41InTheMidst() {
        c.asks("together()", SOME, x -> x.together(), 1);
        c.asks("together() by HOURS", BY_HOURS, x -> x.together(), 0);
    }

    private static void promise42InTheMidst() {
        c.asks("odds()", SOME, x -> x.odds(), 250000);
        c.asks("odds() by a GAPPED", BY_GAPPED, x -> x.odds(), 1000000);
    }

    private static void promise43InTheMidst() {
        c.asks("expected()", SOME, x -> x.expected(), 1000);
        c.asks("expected() by a GAPPED", BY_GAPPED, x -> x.expected(), 0);
    }

    private static void promise44InTheMidst() {
        c.asks("fits(4)", MidstTests::toldOnFour, x -> x.fits(4), 0b110);
        c.asks("fits(0)", SOME, x -> x.fits(0), 0);
    }

    private static void promise45InTheMidst() {
        c.asks("next(7, 0)", SOME, x -> x.next(7, 0), 1);
        c.asks("next(7, 1)", SOME, x -> x.next(7, 1), 1);
        c.asks("next(6, 1)", SOME, x -> x.next(6, 1), 0);
    }

    // ---- rings that are looked for

    private static void promise46InTheMidst() {
        c.asks("loudest(3, 1)", SOME, x -> x.loudest(3, 1), 0b100);
        c.asks("loudest(3, 1) by HOURS", BY_HOURS, x -> x.loudest(3, 1), 0b001);
        c.asks("loudest(3, 1) at depth 2", someThat(x -> x.ask(0, 2)), x -> x.loudest(3, 1), 0b010);
    }

    private static void promise47InTheMidst() {
        c.asks("plan(3, 0b001)", SOME, x -> x.plan(3, 0b001), 0b010);
        c.asks("plan(3, 0b001) by HOURS", BY_HOURS, x -> x.plan(3, 0b001), -1);
    }

    private static void promise48InTheMidst() {
        c.asks("fill(3, 0b110)", SOME, x -> x.fill(3, 0b110), 0);
        c.asks("fill(3, 0b110) by HOURS", BY_HOURS, x -> x.fill(3, 0b110), 0b100);
        c.asks("fill(3, 0b110) at depth 2", someThat(x -> x.ask(0, 2)), x -> x.fill(3, 0b110), 0b010);
    }

    private static void promise49InTheMidst() {
        c.asks("round()", SOME, x -> x.round(), 1);
        c.asks("round() by a GAPPED", BY_GAPPED, x -> x.round(), 2);
    }

    // ---- days and people

    private static void promise50InTheMidst() {
        c.asks("day(5, 3, 7, 2)", SOME, x -> x.day(5, 3, 7, 2), 23);
    }

    private static void promise51InTheMidst() {
        c.asks("tolls(20, 0)", SOME, x -> x.tolls(20, 0), 1);
        c.asks("tolls(20, 1)", SOME, x -> x.tolls(20, 1), 0b10);
    }

    private static void promise52InTheMidst() {
        c.asks("meet(4, 6)", SOME, x -> x.meet(4, 6), 12);
    }

    private static void promise53InTheMidst() {
        c.asks("sum(0b10)", SOME, x -> x.sum(0b10), 20);
        c.asks("sum(0b11)", SOME, x -> x.sum(0b11), 90);
    }

    private static void promise54InTheMidst() {
        c.asks("reached(70)", SOME, x -> x.reached(70), 3);
        c.asks("reached(69)", SOME, x -> x.reached(69), 2);
    }

    private static void promise55InTheMidst() {
        c.asks("halves()", SOME, x -> x.halves(), 0b01);
    }

    private static void promise56InTheMidst() {
        c.asks("ranked(0)", SOME, x -> x.ranked(0), 1);
        c.asks("ranked(1)", SOME, x -> x.ranked(1), 0);
    }

    private static void promise57InTheMidst() {
        c.asks("oldest()", SOME, x -> x.oldest(), 0);
    }

    // ---- told rings

    private static void promise58InTheMidst() {
        c.asks("judge(0, 5)", SOME, x -> x.judge(0, 5), 4);
        c.asks("judge(0, 4)", SOME, x -> x.judge(0, 4), -1);
    }

    private static void promise59InTheMidst() {
        c.asks("answers(0, 4, 0)", SOME, x -> x.answers(0, 4, 0), 1);
        c.asks("answers(0, 4, 1)", SOME, x -> x.answers(0, 4, 1), 0);
        c.asks("answers(0, 4, 2)", SOME, x -> x.answers(0, 4, 2), 2);
        c.asks("answers(0, 4, 0) by HOURS", BY_HOURS, x -> x.answers(0, 4, 0), 2);
        c.asks("answers(0, 4, 2) at depth 0", someThat(x -> x.ask(0, 0)), x -> x.answers(0, 4, 2), 1);
    }

    private static void promise60InTheMidst() {
        c.changes("rings(0, 3)", SOME, x -> x.rings(0, 3), 3,
                "steps 4 -> 3; step 0 0 -> 1; step 1 1 -> 0; step 3 0 -> null");
    }

    // ---- in truth

    private static void promise61InTheMidst() {
        c.changes("ring(true)", SOME, x -> x.ring(true), 0, "steps 4 -> 5; strokes 2 -> 3; step 4 null -> 1");
        // a draw of 92, and one of 33, which is below 50
        c.changes("ring(false)", SOME, x -> x.ring(false), 1, "steps 4 -> 5; seed 99 -> 1873839200; step 4 null -> 0");
        c.changes("ring(false), missed", someThat(x -> x.seed(1873839200)), x -> x.ring(false), 0,
                "steps 4 -> 5; seed 1873839200 -> 415091993; step 4 null -> 0");
        c.changes("ring(false) by a GAPPED", someThat(x -> Checks.read(x, ";ring gsg;use 1")), x -> x.ring(false), 1,
                "steps 3 -> 4; seed 99 -> 1873839200; step 3 null -> 0");
    }

    private static void promise62InTheMidst() {
        // a gap (28592), missed (6333); a gap (22436), struck (58088)
        c.changes("days(2)", SOME, x -> x.days(2), 1,
                "steps 4 -> 6; seed 99 -> -488095809; step 4 null -> 0; step 5 null -> 0");
        // by HOURS it strikes at 4, not at 5, which a draw for a gap (22436) alone is made for
        c.changes("days(2) by HOURS", BY_HOURS, x -> x.days(2), 0,
                "steps 4 -> 6; seed 99 -> 1470374366; step 4 null -> 0; step 5 null -> 0");
    }

    private static void promise63InTheMidst() {
        c.changes("turn() of sgsg", someThat(x -> x.rings(0, 4)), x -> x.turn(), 1,
                "step 0 1 -> 0; step 1 0 -> 1; step 2 1 -> 0; step 3 0 -> 1");
        c.changes("turn() of gs by HOURS", someThat(x -> Checks.read(x, ";ring gs;use 0")), x -> x.turn(), 1,
                "step 0 0 -> 1; step 1 1 -> 0");
        c.changes("turn() of gssg", SOME, x -> x.turn(), 2, "");
    }

    private static void promise64InTheMidst() {
        c.changes("change(3)", SOME, x -> x.change(3), 1, "strokes 2 -> 3; step 3 0 -> 1");
        c.changes("change(2)", SOME, x -> x.change(2), 0, "strokes 2 -> 1; step 2 1 -> 0");
    }

    private static void promise65InTheMidst() {
        c.changes("cut(2)", SOME, x -> x.cut(2), 2, "steps 4 -> 2; strokes 2 -> 1; step 2 1 -> null; step 3 0 -> null");
    }

    private static void promise66InTheMidst() {
        c.changes("still()", SOME, x -> x.still(), 4, "steps 4 -> 0; strokes 2 -> 0; step 0 0 -> null; step 1 1 -> null;"
                + " step 2 1 -> null; step 3 0 -> null");
    }

    private static void promise67InTheMidst() {
        c.changes("seed(5)", SOME, x -> x.seed(5), 99, "seed 99 -> 5");
    }

    // ---- keeping

    private static void promise68InTheMidst() {
        c.changes("image()", SOME, x -> x.image(), 1, "kept laws 1 -> 3; kept in force 0 -> 2; kept depth 3 -> 1;"
                + " kept miss 5 -> 50; kept steps 2 -> 4; kept strokes 1 -> 2; kept people 1 -> 2; kept ages 70 -> 90;"
                + " kept seed -7 -> 99; kept kind 1 null -> 2; kept a 1 null -> 1; kept kind 2 null -> 4;"
                + " kept a 2 null -> 1; kept step 2 null -> 1; kept step 3 null -> 0; kept age 1 null -> 20");
    }

    private static void promise69InTheMidst() {
        c.changes("back()", SOME, x -> x.back(), 1, "laws 3 -> 1; in force 2 -> 0; depth 1 -> 3; miss 50 -> 5;"
                + " steps 4 -> 2; strokes 2 -> 1; people 2 -> 1; ages 90 -> 70; seed 99 -> -7; kind 1 2 -> null;"
                + " a 1 1 -> null; kind 2 4 -> null; a 2 1 -> null; step 2 1 -> null; step 3 0 -> null;"
                + " age 1 20 -> null; shelf 3 12 -> -1");
    }

    private static void promise70InTheMidst() {
        int[] due = {3, 2, 1, 50, 4, 2, 2, 90, 13, 99, 4, -1, 0, 0, 0, 0, 0};
        for (int what = 0; what < due.length; what++) {
            int asked = what;
            c.asks("status(" + what + ")", SOME, x -> x.status(asked), due[what]);
        }
    }
}
