import java.util.function.Supplier;

/** Promises 9 to 17: what there is, told by calls and read from THE TAPE. */
public final class LakeTests {
    private static final Checks c = new Checks();

    private static final String SIX_LAWS = "law 0 0; law 1 1; law 2 2; law 3 3; law 4 4; law 5 5";
    private static final String TEN_PEOPLE = "person 1; person 2; person 3; person 4; person 5;"
            + "person 6; person 7; person 8; person 9; person 10";
    private static final String FORTY = "ssssssssssggggggggggssssssssssgggggggggg";

    public static void main(String[] args) {
        law();
        use();
        ask();
        person();
        feed();
        wipe();
        lakesRead();
        faultsOfNumbersAndWords();
        faultsOfOrder();
        faultsOfRoom();
        allOrNothing();
        lawOfAndAge();
        c.finish();
    }

    private static Supplier<AnsweredByTheDrowned> made(String text) {
        return () -> Checks.of(text);
    }

    private static void law() {
        c.promise(9);
        AnsweredByTheDrowned x = new AnsweredByTheDrowned();
        for (int i = 0; i < 6; i++) {
            c.due("law(" + i + ", " + (9 - i) + ")", x.law(i, 9 - i), i);
            c.due("lawOf(" + i + ", 0)", x.lawOf(i, 0), i);
            c.due("lawOf(" + i + ", 1)", x.lawOf(i, 1), 9 - i);
        }
        c.due("status(0)", x.status(0), 6);
        c.due("status(1)", x.status(1), 0);
        c.refused("a seventh law", made(SIX_LAWS), y -> y.law(0, 0), -6);
        c.refused("a seventh that may not be", made(SIX_LAWS), y -> y.law(6, 0), -2);
        c.refused("law(-1, 0)", made(""), y -> y.law(-1, 0), -2);
        c.refused("law(6, 0)", made(""), y -> y.law(6, 0), -2);
        c.refused("law(0, -1)", made(""), y -> y.law(0, -1), -2);
        c.refused("law(0, 10)", made(""), y -> y.law(0, 10), -2);
    }

    private static void use() {
        c.promise(10);
        AnsweredByTheDrowned x = Checks.of(SIX_LAWS);
        c.due("use(5)", x.use(5), 0);
        c.due("use(2)", x.use(2), 5);
        c.due("status(1)", x.status(1), 2);
        c.due("use(2) again", x.use(2), 2);
        c.refused("use(6)", made(SIX_LAWS), y -> y.use(6), -2);
        c.refused("use(-1)", made(SIX_LAWS), y -> y.use(-1), -2);
        c.refused("use(0) without laws", made(""), y -> y.use(0), -2);
    }

    private static void ask() {
        c.promise(11);
        AnsweredByTheDrowned x = new AnsweredByTheDrowned();
        c.due("ask(0, 9)", x.ask(0, 9), 2);
        c.due("ask(0, 0)", x.ask(0, 0), 9);
        c.due("ask(1, 100)", x.ask(1, 100), 0);
        c.due("ask(1, 7)", x.ask(1, 7), 100);
        c.due("status(2)", x.status(2), 0);
        c.due("status(3)", x.status(3), 7);
        c.refused("ask(0, 10)", made(""), y -> y.ask(0, 10), -2);
        c.refused("ask(0, -1)", made(""), y -> y.ask(0, -1), -2);
        c.refused("ask(1, 101)", made(""), y -> y.ask(1, 101), -2);
        c.refused("ask(1, -1)", made(""), y -> y.ask(1, -1), -2);
        c.refused("ask(2, 0)", made(""), y -> y.ask(2, 0), -2);
        c.refused("ask(-1, 0)", made(""), y -> y.ask(-1, 0), -2);
    }

    private static void person() {
        c.promise(12);
        AnsweredByTheDrowned x = new AnsweredByTheDrowned();
        c.due("person(99)", x.person(99), 0);
        c.due("person(1)", x.person(1), 1);
        for (int i = 2; i < 10; i++) {
            c.due("person(50)", x.person(50), i);
        }
        c.due("status(6)", x.status(6), 10);
        c.due("status(7)", x.status(7), 500);
        c.refused("an eleventh", made(TEN_PEOPLE), y -> y.person(1), -6);
        c.refused("an eleventh that may not be", made(TEN_PEOPLE), y -> y.person(100), -2);
        c.refused("person(0)", made(""), y -> y.person(0), -2);
        c.refused("person(100)", made(""), y -> y.person(100), -2);
    }

    private static AnsweredByTheDrowned fullTape() {
        AnsweredByTheDrowned x = new AnsweredByTheDrowned();
        for (int i = 0; i < 250; i++) {
            x.feed(' ');
        }
        return x;
    }

    private static void feed() {
        c.promise(13);
        AnsweredByTheDrowned x = new AnsweredByTheDrowned();
        c.due("feed(0)", x.feed(0), 1);
        c.due("feed(255)", x.feed(255), 2);
        for (int i = 3; i <= 250; i++) {
            c.due("feed(32)", x.feed(32), i);
        }
        c.refused("feed(32) on a full tape", LakeTests::fullTape, y -> y.feed(32), -6);
        c.refused("feed(256) on a full tape", LakeTests::fullTape, y -> y.feed(256), -2);
        c.refused("feed(-1)", made(""), y -> y.feed(-1), -2);
        c.refused("feed(256)", made(""), y -> y.feed(256), -2);
        c.due("lake() of a full tape of blanks", fullTape().lake(), -270);
    }

    private static void wipe() {
        c.promise(14);
        AnsweredByTheDrowned x = new AnsweredByTheDrowned();
        c.due("wipe() of an empty tape", x.wipe(), 0);
        x.feed('x');
        x.feed('y');
        c.due("status(8)", x.status(8), 2);
        c.due("wipe()", x.wipe(), 2);
        c.due("status(8)", x.status(8), 0);
        c.due("a lake behind it", Checks.read(x, "still"), 1);
        c.due("wipe() of a full tape", fullTape().wipe(), 250);
    }

    private static void lakesRead() {
        c.promise(15);
        AnsweredByTheDrowned x = new AnsweredByTheDrowned();
        c.due("statements", Checks.read(x, "law 1 2;law 5 09;use 1;depth 009;miss 100;ring sgg;ring s;person 99"), 8);
        int[] due = {2, 1, 9, 100, 4, 2, 1, 99, 0, 1, 0};
        for (int what = 0; what < due.length; what++) {
            c.due("status(" + what + ")", x.status(what), due[what]);
        }
        c.due("lawOf(1, 1)", x.lawOf(1, 1), 9);
        c.due("steps", Checks.bits(4, x::step), 0b1001);
        c.due("steps behind those there are", Checks.read(x, "ring gs"), 1);
        c.due("steps", Checks.bits(6, x::step), 0b101001);
        c.due("still, then a ring", Checks.read(x, "  still ;ring   s  "), 2);
        c.due("status(4)", x.status(4), 1);
        c.due("no blanks where none is wanted", Checks.read(x, "law2 3;depth4;miss05"), 3);
        c.due("status(0)", x.status(0), 3);
        c.due("status(2)", x.status(2), 4);
        c.due("a law of this lake may be used", Checks.read(x, "law 0 0; use 3"), 2);
        c.due("status(1)", x.status(1), 3);
        c.due("forty steps", Checks.read(x, "still; ring " + FORTY), 2);
        c.due("status(4)", x.status(4), 40);
        c.due("the least numbers", Checks.read(x, "use 0; depth 0; miss 0; person 1"), 4);
        c.due("status(1)", x.status(1), 0);
        c.due("status(3)", x.status(3), 0);
        c.due("refusals", x.status(12), 0);
    }

    private static void fault(String ahead, String text, int place) {
        Supplier<AnsweredByTheDrowned> made = () -> {
            AnsweredByTheDrowned x = Checks.of(ahead);
            x.row(0, 0, 1);
            return x;
        };
        c.refused("the lake '" + text + "'", made, x -> Checks.read(x, text), -20 - place, -2);
        AnsweredByTheDrowned x = made.get();
        Checks.read(x, text);
        c.due("the tape behind '" + text + "'", x.status(8), 0);
    }

    private static void faultsOfNumbersAndWords() {
        fault("", "law 6 0", 4);
        fault("", "law 0 10", 6);
        fault("", "law 0000 1", 4);
        fault("", "law 0 0009", 6);
        fault("", "use 0", 4);
        fault("law 0 0", "use 1", 4);
        fault("", "depth 10", 6);
        fault("", "depth 0009", 6);
        fault("", "miss 101", 5);
        fault("", "miss 4294967296", 5);
        fault("", "person 0", 7);
        fault("", "person 100", 7);
        fault("", "ring sgx", 5);
        fault("", "ring 5", 5);
        fault("", "ring sg5", 7);
        fault("", "ring sg gs", 8);
        fault("", "laws 0 0", 0);
        fault("", "la", 0);
        fault("", "stills", 0);
        fault("", "stillz", 0);
        fault("", "astill", 0);
        fault("", "xaw 0 0", 0);
        fault("", "lawx 0 0", 0);
        fault("", "still still", 6);
        fault("", "Law 0 0", 0);
        fault("", "law 0 0\t", 7);
        fault("", "law# 0", 3);
        fault("", "depth -1", 6);
    }

    private static void faultsOfOrder() {
        fault("", "", 0);
        fault("", "   ", 3);
        fault("", ";", 0);
        fault("", "5", 0);
        fault("", "law", 3);
        fault("", "law 0", 5);
        fault("", "law 0  ", 7);
        fault("", "law 0 ;", 6);
        fault("", "law 0 law", 6);
        fault("", "law 0 0;", 8);
        fault("", "law 0 0; ", 9);
        fault("", "law 0 0;;", 8);
        fault("", "law 0 0 0", 8);
        fault("", "law 0 0 law 0 0", 8);
        fault("", "depth;", 5);
        fault("", "depth s", 6);
        fault("", "still 0", 6);
        fault("", "ring", 4);
        fault("", "ring;", 4);
        fault("", "still; use", 10);
        fault("", "x" + (char) 255, 0);
        fault("", "still" + (char) 255, 5);
        fault("", "still" + (char) 0, 5);
        fault("", "still{", 5);
        fault("", "still`", 5);
        fault("", "still;:", 6);
        fault("", "depth /", 6);
    }

    private static void faultsOfRoom() {
        fault(SIX_LAWS, "law 0 0", 0);
        fault(SIX_LAWS, "depth 1; law 9 9", 9);
        fault(SIX_LAWS, "  law", 2);
        fault("law 0 0", SIX_LAWS, 45);
        fault(TEN_PEOPLE, "person 0", 0);
        fault("person 1", TEN_PEOPLE, 89);
        fault("ring " + FORTY, "ring s", 0);
        fault("ring " + FORTY, "ring", 0);
        fault("ring " + FORTY, "  ring 5", 2);
        fault("ring " + FORTY, "depth 1;ring;", 8);
        fault("ring " + FORTY, "rings s", 0);
        fault("", "ring " + FORTY + "; ring s", 47);
        fault("", "still; ring " + FORTY + "; ring", 54);
        // room for one STEP: it's the WORD behind that is too long
        fault("ring " + FORTY.substring(1), "ring gg", 5);
        fault("ring " + FORTY.substring(1), "ring", 4);
        fault("ring " + FORTY.substring(1), "ring s; ring s", 8);
        fault("", "ring " + FORTY + "s", 5);
    }

    private static void allOrNothing() {
        fault("law 1 1; ring sg; person 5", "law 2 2; use 1; depth 5; miss 50; person 9; ring s; still; nothing", 59);
        AnsweredByTheDrowned x = new AnsweredByTheDrowned();
        Checks.read(x, "law 2 2; oops");
        c.due("law(5, 5) behind a lake that came to nothing", x.law(5, 5), 0);
        c.due("lawOf(0, 0)", x.lawOf(0, 0), 5);
        c.due("a lake behind a fault", Checks.read(x, "ring s"), 1);
        c.due("status(0) behind it", x.status(0), 1);
        c.due("lawOf(0, 0) behind it", x.lawOf(0, 0), 5);
        x.ask(0, 7);
        x.still();
        c.due("a lake behind calls", Checks.read(x, "miss 3"), 1);
        c.due("status(2)", x.status(2), 7);
        c.due("status(4)", x.status(4), 0);
        c.due("status(12)", x.status(12), 1);
    }

    private static void lawOfAndAge() {
        c.promise(16);
        AnsweredByTheDrowned x = Checks.of("law 3 7; person 44; person 1");
        c.due("lawOf(0, 0)", x.lawOf(0, 0), 3);
        c.due("lawOf(0, 1)", x.lawOf(0, 1), 7);
        c.refused("lawOf(1, 0)", made("law 3 7"), y -> y.lawOf(1, 0), -2);
        c.refused("lawOf(-1, 0)", made("law 3 7"), y -> y.lawOf(-1, 0), -2);
        c.refused("lawOf(0, 2)", made("law 3 7"), y -> y.lawOf(0, 2), -2);
        c.refused("lawOf(0, -1)", made("law 3 7"), y -> y.lawOf(0, -1), -2);
        c.promise(17);
        c.due("age(0)", x.age(0), 44);
        c.due("age(1)", x.age(1), 1);
        c.refused("age(1)", made("person 5"), y -> y.age(1), -2);
        c.refused("age(-1)", made("person 5"), y -> y.age(-1), -2);
    }
}
