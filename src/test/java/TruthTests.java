import java.util.function.Supplier;

/** Promises 58 to 70: told rings, THE RING in truth, and what is kept. */
public final class TruthTests {
    private static final Checks c = new Checks();

    private static final String FORTY = "ssssssssssggggggggggssssssssssgggggggggg";

    public static void main(String[] args) {
        judge();
        answers();
        rings();
        toldRefused();
        ring();
        days();
        turn();
        change();
        cut();
        still();
        seed();
        image();
        back();
        status();
        c.finish();
    }

    private static Supplier<AnsweredByTheDrowned> made(String text) {
        return () -> Checks.of(text);
    }

    private static AnsweredByTheDrowned told(String text, long... elements) {
        AnsweredByTheDrowned x = Checks.of(text);
        Checks.put(x, 0, elements);
        return x;
    }

    private static void judge() {
        c.promise(58);
        AnsweredByTheDrowned x = told("", 1, 0, 2, 1, -1);
        c.due("judge(0, 5)", x.judge(0, 5), 2);
        c.due("judge(0, 3)", x.judge(0, 3), 2);
        c.due("judge(0, 2)", x.judge(0, 2), -1);
        c.due("judge(0, 0)", x.judge(0, 0), -1);
        x.set(0, 2, 0);
        c.due("judge(0, 5)", x.judge(0, 5), 4);
        x.row(1, 4, 40);
        x.set(1, 39, 77);
        c.due("judge(1, 40) of booleans", x.judge(1, 40), -1);
        x.row(2, 3, 1);
        x.set(2, 0, 1L << 32);
        c.due("judge(2, 1) of a long", x.judge(2, 1), 0);
        c.due("refusals", x.status(12) + x.status(15), 0);
    }

    private static void answers() {
        c.promise(59);
        AnsweredByTheDrowned x = told("law 0 0; depth 1; ring ss", 1, 0, 1, 0, 0, 9);
        c.due("how often it strikes", x.answers(0, 5, 0), 3);
        c.due("both", x.answers(0, 5, 1), 1);
        c.due("silent", x.answers(0, 5, 2), 2);
        c.due("of fewer", x.answers(0, 2, 0), 1);
        c.due("of none", x.answers(0, 0, 2), 0);
        x.law(5, 0);
        x.use(1);
        c.due("how often at hours", x.answers(0, 5, 0), 3);
        c.due("how often at hours of four", x.answers(0, 4, 0), 2);
        c.due("THE RING is as it was", x.status(4), 2);
        AnsweredByTheDrowned y = told("", 1, 0);
        c.due("strikes without laws", y.answers(0, 2, 0), 0);
        c.due("silent without laws", y.answers(0, 2, 2), 1);
    }

    private static void rings() {
        c.promise(60);
        AnsweredByTheDrowned x = told("law 0 0; ring sssss", 0, 1, 1, 2);
        c.due("rings(0, 3)", x.rings(0, 3), 3);
        c.due("status(4)", x.status(4), 3);
        c.due("steps", Checks.bits(3, x::step), 0b110);
        c.due("the seed is as it was", x.status(9), 1);
        c.due("rings(0, 0)", x.rings(0, 0), 0);
        c.due("status(5)", x.status(5), 0);
        x.row(1, 0, 40);
        x.set(1, 39, 1);
        c.due("rings(1, 40)", x.rings(1, 40), 40);
        c.due("lastStroke()", x.lastStroke(), 39);
    }

    /** Shelves: 0 a ROW that is WRONG at 1, 1 a LAW, 2 NOTHING. */
    private static AnsweredByTheDrowned wrong() {
        AnsweredByTheDrowned x = told("law 0 0; ring sgg", 1, 2, 0);
        x.show(1, 0);
        return x;
    }

    private static void toldRefused() {
        int[][] cases = {{8, 1, -2}, {-1, 1, -2}, {1, -1, -2}, {2, 41, -2}, {1, 1, -3}, {1, 9, -3}, {2, 0, -4},
            {0, 4, -2}, {0, -1, -2}};
        for (int[] one : cases) {
            int s = one[0];
            int n = one[1];
            c.promise(58);
            c.refused("judge(" + s + ", " + n + ")", TruthTests::wrong, x -> x.judge(s, n), one[2]);
            c.promise(59);
            c.refused("answers(" + s + ", " + n + ", 0)", TruthTests::wrong, x -> x.answers(s, n, 0), one[2]);
            c.promise(60);
            c.refused("rings(" + s + ", " + n + ")", TruthTests::wrong, x -> x.rings(s, n), one[2]);
        }
        c.promise(59);
        c.refused("answers(0, 3, 0)", TruthTests::wrong, x -> x.answers(0, 3, 0), -5);
        c.refused("answers(0, 1, 3)", TruthTests::wrong, x -> x.answers(0, 1, 3), -2);
        c.refused("answers(1, 1, -1)", TruthTests::wrong, x -> x.answers(1, 1, -1), -2);
        c.promise(60);
        c.refused("rings(0, 2)", TruthTests::wrong, x -> x.rings(0, 2), -5);
    }

    /** The first DRAW below 100 from SEED 1 is 38, the SEED then 1103527590. */
    private static void ring() {
        c.promise(61);
        AnsweredByTheDrowned x = Checks.of("law 0 0; miss 38");
        c.due("ring(true)", x.ring(true), 0);
        c.due("no draw for what doesn't strike", x.status(9), 1);
        c.due("ring(false) by a draw of 38", x.ring(false), 1);
        c.due("a draw", x.status(9), 1103527590);
        c.due("ring(false) by a draw of 26", x.ring(false), 0);
        c.due("a draw", x.status(9), -1770082073);
        c.due("steps", Checks.bits(3, x::step), 0b001);
        c.due("what was missed is heard of all the same", x.strikes(2), 1);
        AnsweredByTheDrowned y = Checks.of("law 0 0; miss 39");
        c.due("ring(false), missed by a draw of 38", y.ring(false), 0);
        AnsweredByTheDrowned z = Checks.of("law 0 0");
        c.due("ring(false), miss 0", z.ring(false), 1);
        c.due("a draw even so", z.status(9), 1103527590);
        AnsweredByTheDrowned w = Checks.of("ring s");
        c.due("ring(false) without laws", w.ring(false), 0);
        c.due("no draw without laws", w.status(9), 1);
        AnsweredByTheDrowned v = Checks.of("law 0 0; law 1 0; use 1; ring s");
        c.due("ring(true) by an echo", v.ring(true), 1);
        c.due("ring(false) by an echo", v.ring(false), 1);
        c.due("ring(false) behind a gap", v.ring(false), 0);
        c.refused("a step more than forty", made("law 0 0; ring " + FORTY), u -> u.ring(false), -6);
    }

    private static void days() {
        c.promise(62);
        // draws below 2 from seed 1: 0, 0, 1, 1, 1, 1, 0, 1
        AnsweredByTheDrowned x = Checks.of("");
        c.due("days(8) without laws", x.days(8), 0);
        c.due("steps", Checks.bits(8, x::step), 0b10111100);
        c.due("status(9)", x.status(9), -1661227463);
        // a gap (16838), struck (38526); a stroke (10113); a stroke (50283)
        AnsweredByTheDrowned y = Checks.of("law 0 0");
        c.due("days(3)", y.days(3), 1);
        c.due("steps", Checks.bits(3, y::step), 0b110);
        c.due("status(9)", y.status(9), -999580867);
        AnsweredByTheDrowned z = Checks.of("law 0 0; miss 27");
        c.due("days(1), missed by a draw of 26", z.days(1), 0);
        AnsweredByTheDrowned w = Checks.of("law 0 0; miss 26");
        c.due("days(1), not missed by a draw of 26", w.days(1), 1);
        AnsweredByTheDrowned v = Checks.of("ring " + FORTY.substring(2));
        c.due("days(40)", v.days(40), 0);
        c.due("status(4)", v.status(4), 40);
        c.due("a draw for each step there is room for", v.status(9), -1770082073);
        c.due("days(1) without room", v.days(1), 0);
        c.due("no draw without room", v.status(9), -1770082073);
        c.due("refusals", v.status(12) + v.status(16), 0);
        c.refused("days(0)", made("law 0 0"), u -> u.days(0), -2);
        c.refused("days(41)", made("law 0 0"), u -> u.days(41), -2);
        c.refused("days(-1)", made("law 0 0"), u -> u.days(-1), -2);
    }

    private static void turn() {
        c.promise(63);
        AnsweredByTheDrowned x = Checks.of("law 1 0; ring sggss");
        c.due("turn()", x.turn(), 3 - 1);
        c.due("steps", Checks.bits(5, x::step), 0b10011);
        c.due("turn() again", x.turn(), 2);
        c.due("steps", Checks.bits(5, x::step), 0b11001);
        AnsweredByTheDrowned y = Checks.of("law 1 0; ring sgg");
        c.due("turn() of sgg", y.turn(), 0);
        c.due("steps", Checks.bits(3, y::step), 0b100);
        c.due("turn() of ggs", y.turn(), 1);
        AnsweredByTheDrowned z = Checks.of("ring sg");
        c.due("without laws", z.turn(), 0);
        c.due("steps", Checks.bits(2, z::step), 0b10);
        c.due("without steps", Checks.of("law 0 0").turn(), 0);
    }

    private static void change() {
        c.promise(64);
        AnsweredByTheDrowned x = Checks.of("law 0 0; ring sg");
        c.due("change(0)", x.change(0), 0);
        c.due("change(1)", x.change(1), 1);
        c.due("steps", Checks.bits(2, x::step), 0b10);
        c.due("the seed is as it was", x.status(9), 1);
        c.due("strikes(0)", x.strikes(0), 1);
        AnsweredByTheDrowned y = Checks.of("ring " + FORTY);
        c.due("change(39)", y.change(39), 1);
        c.due("lastStroke()", y.lastStroke(), 39);
        c.refused("change(2)", made("ring sg"), z -> z.change(2), -2);
        c.refused("change(-1)", made("ring sg"), z -> z.change(-1), -2);
        c.refused("change(0) of no steps", made(""), z -> z.change(0), -2);
    }

    private static void cut() {
        c.promise(65);
        AnsweredByTheDrowned x = Checks.of("ring ssgss");
        c.due("cut(1)", x.cut(1), 4);
        c.due("status(5)", x.status(5), 3);
        c.due("cut(3)", x.cut(3), 1);
        c.due("status(5)", x.status(5), 1);
        c.due("ring(false)", x.ring(false), 0);
        c.due("step(1)", x.step(1), 0);
        c.due("cut(2)", x.cut(2), 0);
        c.due("cut(40) of forty", Checks.of("ring " + FORTY).cut(40), 0);
        c.refused("cut(0)", made("ring sg"), y -> y.cut(0), -2);
        c.refused("cut(-1)", made("ring sg"), y -> y.cut(-1), -2);
        c.refused("cut(41)", made("ring " + FORTY), y -> y.cut(41), -2);
        c.refused("cut(3) of two", made("ring sg"), y -> y.cut(3), -5);
        c.refused("cut(1) of none", made(""), y -> y.cut(1), -5);
    }

    private static void still() {
        c.promise(66);
        AnsweredByTheDrowned x = Checks.of("law 0 0; person 9; ring ssgss");
        c.due("still()", x.still(), 5);
        c.due("status(4)", x.status(4), 0);
        c.due("status(5)", x.status(5), 0);
        c.due("still() again", x.still(), 0);
        c.due("ring(false)", x.ring(false), 1);
        c.due("step(0)", x.step(0), 0);
        c.due("status(0)", x.status(0), 1);
    }

    private static void seed() {
        c.promise(67);
        AnsweredByTheDrowned x = Checks.of("law 0 0; miss 50");
        c.due("seed(5)", x.seed(5), 1);
        c.due("seed(MIN)", x.seed(Integer.MIN_VALUE), 5);
        c.due("seed(6)", x.seed(6), Integer.MIN_VALUE);
        // the seed wraps to -1968830777; its upper bits without a sign are 35494
        c.due("a draw of 94", x.ring(false), 1);
        c.due("status(9)", x.status(9), -1968830777);
        x.seed(3);
        c.due("a draw of 15", x.ring(false), 0);
    }

    private static void image() {
        c.promise(68);
        AnsweredByTheDrowned x = Checks.of("law 0 0; ring s");
        c.due("image()", x.image(), 1);
        x.ring(true);
        c.due("image() anew", x.image(), 1);
        x.ring(true);
        c.due("back()", x.back(), 1);
        c.due("the later image", x.status(4), 2);
        c.due("image() of a new object", new AnsweredByTheDrowned().image(), 1);
    }

    private static void back() {
        c.promise(69);
        AnsweredByTheDrowned x = Checks.of("law 1 4; law 2 3; use 1; depth 7; miss 9; ring sgs; person 20");
        x.seed(77);
        x.feed('s');
        x.law(7, 7);
        x.image();
        x.law(0, 0);
        x.law(5, 5);
        x.show(0, 1);
        x.show(1, 2);
        x.show(2, 3);
        Checks.put(x, 3, 8, 9);
        x.use(3);
        x.ask(0, 1);
        x.ask(1, 2);
        x.person(30);
        x.seed(78);
        x.change(0);
        x.ring(true);
        x.feed('t');
        x.use(9);
        c.due("back()", x.back(), 1);
        int[] due = {2, 1, 7, 9, 3, 2, 1, 20, 2, 77, 2, -1, 2, 0, 0, 0, 0};
        for (int what = 0; what < due.length; what++) {
            c.due("status(" + what + ")", x.status(what), due[what]);
        }
        c.due("steps", Checks.bits(3, x::step), 0b101);
        c.due("holds(0)", x.holds(0), 11);
        c.due("says(0, 2)", x.says(0, 0), 3);
        c.due("holds(1)", x.holds(1), -1);
        c.due("holds(2)", x.holds(2), -1);
        c.due("element(3, 1)", x.element(3, 1), 9);
        c.due("a law behind it", x.law(3, 8), 2);
        c.due("lawOf(2, 0)", x.lawOf(2, 0), 3);
        c.due("a person behind it", x.person(5), 1);
        c.due("age(1)", x.age(1), 5);
        c.due("back() once more", x.back(), 1);
        c.due("holds(0) of a law that stays", x.holds(0), 11);
        x.law(0, 0);
        x.show(0, 2);
        x.show(7, 2);
        c.due("back() a third time", x.back(), 1);
        c.due("holds(0)", x.holds(0), -1);
        c.due("holds(7)", x.holds(7), -1);
        c.due("status(0)", x.status(0), 2);
        c.refused("back() to nothing", made("law 0 0"), y -> y.back(), -5);
    }

    private static void status() {
        c.promise(70);
        AnsweredByTheDrowned x = Checks.of("law 1 4; law 2 3; use 1; depth 7; miss 9; ring sgs; person 20; person 30");
        x.row(0, 0, 0);
        x.show(7, 1);
        x.feed(0);
        x.age(9);
        x.age(9);
        x.set(7, 0, 0);
        x.set(1, 0, 0);
        x.cut(40);
        for (int i = 0; i < 4; i++) {
            x.law(0, 0);
        }
        x.law(0, 0);
        int[] due = {6, 1, 7, 9, 3, 2, 2, 50, 1, 1, 2, -1, 2, 1, 1, 1, 1, -1};
        for (int what = 0; what < due.length; what++) {
            c.due("status(" + what + ")", x.status(what), due[what]);
        }
        c.due("status(-1)", x.status(-1), -1);
        c.due("status(MIN)", x.status(Integer.MIN_VALUE), -1);
        c.due("status(MAX)", x.status(Integer.MAX_VALUE), -1);
        c.due("asking refuses nothing", x.status(12), 2);
    }
}
