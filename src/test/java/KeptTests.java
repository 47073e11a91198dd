import java.util.function.Supplier;

/** Promises 68 to 70: what is kept, and status. */
public final class KeptTests {
    private static final Checks c = new Checks();
    private static final Supplier<AnsweredByTheDrowned> NEW = AnsweredByTheDrowned::new;

    public static void main(String[] args) {
        c.run(KeptTests.class);
    }

    private static void statusIs(String when, AnsweredByTheDrowned x, int... due) {
        for (int what = 0; what < due.length; what++) {
            c.due("status(" + what + ") " + when, x.status(what), due[what]);
        }
    }

    // ---- 68: image

    private static void promise68ChangesNothing() {
        AnsweredByTheDrowned x = Checks.full();
        AnsweredByTheDrowned y = Checks.full();
        x.law(0, 0);
        c.due("image()", x.image(), 1);
        statusIs("behind it", x, 6, 0, 2, 0, 40, 22, 10, 945, 0, -94435665, 8, -1, 0, 0, 0, 0, 1);
        c.due("back()", x.back(), 1);
        y.law(0, 0);
        y.image();
        c.alike("what was kept, and what never changed", x, y);
    }

    private static void promise68TheLaterOne() {
        AnsweredByTheDrowned x = Checks.of("law 0 0; ring s");
        c.due("image()", x.image(), 1);
        x.ring(true);
        c.due("image() anew", x.image(), 1);
        x.ring(true);
        c.due("back()", x.back(), 1);
        c.due("the later image", x.status(4), 2);
    }

    private static void promise68OfANewObject() {
        AnsweredByTheDrowned x = new AnsweredByTheDrowned();
        c.due("image()", x.image(), 1);
        Checks.read(x, "law 0 0; person 7; ring ssg; depth 5; miss 6");
        x.seed(44);
        c.due("back()", x.back(), 1);
        statusIs("of nothing kept", x, 0, 0, 2, 0, 0, 0, 0, 0, 0, 1, 0);
    }

    private static void promise68ChangesBehindItAreNotKept() {
        AnsweredByTheDrowned x = Checks.of("law 2 3; person 20; ring sgs");
        x.image();
        for (int i = 0; i < 2; i++) {
            x.law(5, 5);
            x.person(30);
            x.change(1);
            x.turn();
            x.cut(2);
            x.ask(0, 9);
            x.seed(2);
            c.due("back()", x.back(), 1);
            statusIs("as it was kept", x, 1, 0, 2, 0, 3, 2, 1, 20, 0, 1, 0);
            c.due("steps", Checks.bits(3, x::step), 0b101);
        }
    }

    // ---- 69: back

    private static void promise69AllButTapeShelvesAndRefusals() {
        AnsweredByTheDrowned x = Checks.of("law 1 4; law 2 3; use 1; depth 7; miss 9; ring sgs; person 20");
        x.seed(77);
        x.feed('s');
        x.law(7, 7);
        x.image();
        x.law(0, 0);
        Checks.put(x, 3, 8, 9);
        x.use(2);
        x.ask(0, 1);
        x.ask(1, 2);
        x.person(30);
        x.seed(78);
        x.change(0);
        x.ring(true);
        x.feed('t');
        x.use(9);
        c.due("back()", x.back(), 1);
        statusIs("behind it", x, 2, 1, 7, 9, 3, 2, 1, 20, 2, 77, 1, -1, 2, 0, 0, 0, 0);
        c.due("steps", Checks.bits(3, x::step), 0b101);
        c.due("element(3, 1)", x.element(3, 1), 9);
        c.due("lawOf(0, 0)", x.lawOf(0, 0), 1);
        c.due("lawOf(1, 1)", x.lawOf(1, 1), 3);
        c.due("age(0)", x.age(0), 20);
        c.due("a law behind it", x.law(3, 8), 2);
        c.due("lawOf(2, 0)", x.lawOf(2, 0), 3);
        c.due("a person behind it", x.person(5), 1);
        c.due("age(1)", x.age(1), 5);
        x.feed('i');
        x.feed('l');
        x.feed('l');
        c.due("THE TAPE goes on", x.lake(), 1);
    }

    private static void promise69FromNothingToFullAndBack() {
        AnsweredByTheDrowned x = Checks.full();
        x.image();
        x.still();
        c.due("back() to forty steps", x.back(), 1);
        statusIs("full", x, 6, 0, 2, 0, 40, 22, 10, 945, 0, -94435665, 8);
        c.due("a seventh law", x.law(0, 0), -6);
        c.due("an eleventh person", x.person(1), -6);
        c.due("a step more", x.ring(true), -6);
        AnsweredByTheDrowned y = new AnsweredByTheDrowned();
        y.image();
        for (int law = 0; law < 6; law++) {
            y.law(law, 0);
            y.show(law, law);
        }
        y.days(40);
        c.due("back() to nothing", y.back(), 1);
        statusIs("empty", y, 0, 0, 2, 0, 0, 0, 0, 0, 0, 1, 0);
        c.due("a law behind it", y.law(5, 1), 0);
        c.due("a shelf that held one of its number", y.holds(0), -1);
    }

    private static void promise69ShelvesWithLaws() {
        AnsweredByTheDrowned x = Checks.of("law 1 4; law 2 3");
        x.image();
        x.law(0, 0);
        x.law(5, 5);
        x.show(0, 0);
        x.show(1, 1);
        x.show(2, 2);
        x.show(6, 3);
        x.show(7, 1);
        x.row(3, 4, 40);
        x.set(3, 39, 1);
        c.due("back()", x.back(), 1);
        int[] due = {10, 11, -1, 4, -1, -1, -1, 11};
        for (int s = 0; s < 8; s++) {
            c.due("holds(" + s + ")", x.holds(s), due[s]);
        }
        c.due("element(3, 39)", x.element(3, 39), 1);
        c.due("status(10)", x.status(10), 4);
        c.due("says(1, 0)", x.says(1, 0), 3);
        c.due("says(2, 0)", x.says(2, 0), -4);
        x.law(5, 5);
        c.due("holds(2), a law of its number being there again", x.holds(2), -1);
    }

    private static void promise69ShelvesThatHeldSomethingThen() {
        AnsweredByTheDrowned x = Checks.of("law 0 0");
        x.show(0, 0);
        Checks.put(x, 1, 5);
        x.image();
        x.show(0, -1);
        x.set(1, 0, 6);
        x.row(2, 0, 1);
        x.back();
        c.due("holds(0) as it stands", x.holds(0), -1);
        c.due("element(1, 0) as it stands", x.element(1, 0), 6);
        c.due("holds(2) as it stands", x.holds(2), 0);
    }

    private static void promise69MoreThanOnce() {
        AnsweredByTheDrowned x = Checks.of("ring sg");
        x.image();
        for (int i = 0; i < 3; i++) {
            x.still();
            c.due("back()", x.back(), 1);
            c.due("status(4)", x.status(4), 2);
        }
        c.due("back() with nothing changed", x.back(), 1);
        c.due("status(4)", x.status(4), 2);
    }

    private static void promise69StuckIfNothingWas() {
        c.refused("back()", Checks.made("law 0 0; ring s; person 4"), x -> x.back(), -5);
        c.refused("back() of a new object", NEW, x -> x.back(), -5);
        AnsweredByTheDrowned x = Checks.full();
        c.due("back() of a full one", x.back(), -5);
        statusIs("behind it", x, 6, 0, 2, 0, 40, 22, 10, 945, 0, -94435665, 8, -1, 0, 0, 0, 1, 0);
    }

    // ---- 70: status

    private static void promise70EmptyAndFull() {
        statusIs("of a new object", new AnsweredByTheDrowned(), 0, 0, 2, 0, 0, 0, 0, 0, 0, 1, 0, -1, 0, 0, 0, 0, 0);
        AnsweredByTheDrowned x = Checks.full();
        x.use(5);
        x.ask(0, 9);
        x.ask(1, 100);
        Checks.feed(x, " ".repeat(250));
        statusIs("of a full one", x, 6, 5, 9, 100, 40, 22, 10, 945, 250, -94435665, 8, -1, 0, 0, 0, 0, 0);
        AnsweredByTheDrowned y = Checks.of("person 99" + ";person 99".repeat(9));
        c.due("status(7) of the oldest", y.status(7), 990);
    }

    private static void promise70Shelves() {
        AnsweredByTheDrowned x = Checks.of("law 0 0");
        for (int s = 0; s < 8; s++) {
            c.due("status(10)", x.status(10), s);
            int held = s % 2 == 0 ? x.row(s, s / 2, 0) : x.show(s, 0);
            c.due("held", held, 1);
        }
        c.due("status(10)", x.status(10), 8);
        x.show(0, -1);
        x.show(1, -1);
        c.due("status(10)", x.status(10), 6);
    }

    private static void promise70HowManyRefusals() {
        AnsweredByTheDrowned x = Checks.of("law 0 0; ring s");
        x.show(7, 0);
        for (int i = 1; i <= 3; i++) {
            c.due("BAD", x.age(9), -2);
            c.due("OTHER", x.set(7, 0, 0), -3);
            c.due("NOTHING", x.set(1, 0, 0), -4);
            c.due("STUCK", x.cut(40), -5);
            for (int law = x.status(0); law < 6; law++) {
                x.law(0, 0);
            }
            c.due("FULL", x.law(0, 0), -6);
            c.due("a lake with a fault", Checks.read(x, "oops"), -20);
            statusIs("behind them", x, 6, 0, 2, 0, 1, 1, 0, 0, 0, 1, 1, -1, 2 * i, i, i, i, i);
        }
        c.due("NONE is no refusal", x.silent(0), -1);
        statusIs("behind it", x, 6, 0, 2, 0, 1, 1, 0, 0, 0, 1, 1, -1, 6, 3, 3, 3, 3);
    }

    private static void promise70NoneAnotherWhat() {
        for (int what : new int[] {-1, -2, 11, 17, 18, 100, Integer.MIN_VALUE, Integer.MAX_VALUE}) {
            c.asks("status(" + what + ")", Checks::some, x -> x.status(what), -1);
            c.asks("status(" + what + ") of a new object", NEW, x -> x.status(what), -1);
        }
    }
}
