import java.util.function.Supplier;

/** Promises 9 to 17: what there is, told by calls and read from THE TAPE. */
public final class LakeTests {
    private static final Checks c = new Checks();
    private static final int MIN = Integer.MIN_VALUE;
    private static final int MAX = Integer.MAX_VALUE;
    private static final Supplier<AnsweredByTheDrowned> NEW = AnsweredByTheDrowned::new;
    private static final String FORTY = Checks.FORTY;
    private static final String SIX_LAWS = Checks.SIX_LAWS;
    private static final String TEN_PEOPLE = Checks.TEN_PEOPLE;

    public static void main(String[] args) {
        c.run(LakeTests.class);
    }

    // ---- 9: law

    private static void promise09SmallestAndLargest() {
        for (int kind = 0; kind <= 5; kind++) {
            for (int a = 0; a <= 9; a += 9) {
                AnsweredByTheDrowned x = new AnsweredByTheDrowned();
                c.due("law(" + kind + ", " + a + ")", x.law(kind, a), 0);
                c.due("lawOf(0, 0)", x.lawOf(0, 0), kind);
                c.due("lawOf(0, 1)", x.lawOf(0, 1), a);
                c.due("status(0)", x.status(0), 1);
            }
        }
    }

    private static void promise09SixByNumber() {
        AnsweredByTheDrowned x = new AnsweredByTheDrowned();
        for (int i = 0; i < 6; i++) {
            c.due("law(" + i + ", " + (9 - i) + ")", x.law(i, 9 - i), i);
        }
        for (int i = 0; i < 6; i++) {
            c.due("lawOf(" + i + ", 0)", x.lawOf(i, 0), i);
            c.due("lawOf(" + i + ", 1)", x.lawOf(i, 1), 9 - i);
        }
        c.due("status(0)", x.status(0), 6);
        c.due("the first is IN FORCE", x.status(1), 0);
        c.due("a seventh", x.law(0, 0), -6);
        c.due("status(0)", x.status(0), 6);
    }

    private static void promise09Bad() {
        for (int kind : new int[] {-1, 6, MIN, MAX}) {
            c.refused("law(" + kind + ", 0)", Checks::some, x -> x.law(kind, 0), -2);
        }
        for (int a : new int[] {-1, 10, MIN, MAX}) {
            c.refused("law(0, " + a + ")", Checks::some, x -> x.law(0, a), -2);
        }
    }

    private static void promise09FullBehindBad() {
        c.refused("a seventh", Checks::full, x -> x.law(0, 0), -6);
        c.refused("a seventh of no kind", Checks::full, x -> x.law(6, 0), -2);
        c.refused("a seventh of kind -1", Checks::full, x -> x.law(-1, 0), -2);
        c.refused("a seventh of a 10", Checks::full, x -> x.law(0, 10), -2);
        c.refused("a seventh of a -1", Checks::full, x -> x.law(0, -1), -2);
    }

    // ---- 10: use

    private static void promise10WhichWasAhead() {
        AnsweredByTheDrowned x = Checks.of(SIX_LAWS);
        c.due("use(5)", x.use(5), 0);
        c.due("use(2)", x.use(2), 5);
        c.due("status(1)", x.status(1), 2);
        c.due("use(2) again", x.use(2), 2);
        c.due("use(0)", x.use(0), 2);
        c.due("status(1)", x.status(1), 0);
        c.due("the only law", Checks.of("law 0 0").use(0), 0);
    }

    private static void promise10TheOneInForceStrikes() {
        AnsweredByTheDrowned x = Checks.of("law 0 0; law 5 0; ring sg");
        c.due("strikes(0) by the first", x.strikes(0), 0);
        x.use(1);
        c.due("strikes(0) by the second", x.strikes(0), 1);
    }

    private static void promise10Bad() {
        for (int law : new int[] {-1, 6, MIN, MAX}) {
            c.refused("use(" + law + ") of six", Checks::full, x -> x.use(law), -2);
        }
        c.refused("use(3) of three", Checks::some, x -> x.use(3), -2);
        c.refused("use(0) without laws", NEW, x -> x.use(0), -2);
    }

    // ---- 11: ask

    private static void promise11DepthSmallestAndLargest() {
        AnsweredByTheDrowned x = new AnsweredByTheDrowned();
        c.due("ask(0, 9)", x.ask(0, 9), 2);
        c.due("status(2)", x.status(2), 9);
        c.due("ask(0, 0)", x.ask(0, 0), 9);
        c.due("status(2)", x.status(2), 0);
        c.due("MISS stays", x.status(3), 0);
    }

    private static void promise11MissSmallestAndLargest() {
        AnsweredByTheDrowned x = new AnsweredByTheDrowned();
        c.due("ask(1, 100)", x.ask(1, 100), 0);
        c.due("status(3)", x.status(3), 100);
        c.due("ask(1, 0)", x.ask(1, 0), 100);
        c.due("status(3)", x.status(3), 0);
        c.due("DEPTH stays", x.status(2), 2);
    }

    private static void promise11Bad() {
        for (int v : new int[] {-1, 10, 100, MIN, MAX}) {
            c.refused("ask(0, " + v + ")", Checks::some, x -> x.ask(0, v), -2);
        }
        for (int v : new int[] {-1, 101, MIN, MAX}) {
            c.refused("ask(1, " + v + ")", Checks::some, x -> x.ask(1, v), -2);
        }
        for (int what : new int[] {-1, 2, MIN, MAX}) {
            c.refused("ask(" + what + ", 0)", Checks::some, x -> x.ask(what, 0), -2);
        }
    }

    // ---- 12: person

    private static void promise12SmallestAndLargest() {
        AnsweredByTheDrowned x = new AnsweredByTheDrowned();
        c.due("person(99)", x.person(99), 0);
        c.due("person(1)", x.person(1), 1);
        c.due("age(0)", x.age(0), 99);
        c.due("age(1)", x.age(1), 1);
        c.due("status(7)", x.status(7), 100);
    }

    private static void promise12TenByNumber() {
        AnsweredByTheDrowned x = new AnsweredByTheDrowned();
        for (int i = 0; i < 10; i++) {
            c.due("person(" + (90 - i) + ")", x.person(90 - i), i);
        }
        for (int i = 0; i < 10; i++) {
            c.due("age(" + i + ")", x.age(i), 90 - i);
        }
        c.due("status(6)", x.status(6), 10);
        c.due("an eleventh", x.person(1), -6);
        c.due("status(7)", x.status(7), 855);
    }

    private static void promise12Bad() {
        for (int age : new int[] {-1, 0, 100, MIN, MAX}) {
            c.refused("person(" + age + ")", Checks::some, x -> x.person(age), -2);
        }
    }

    private static void promise12FullBehindBad() {
        c.refused("an eleventh", Checks::full, x -> x.person(1), -6);
        c.refused("an eleventh of 0", Checks::full, x -> x.person(0), -2);
        c.refused("an eleventh of 100", Checks::full, x -> x.person(100), -2);
    }

    // ---- 13: feed

    private static AnsweredByTheDrowned fullTape() {
        AnsweredByTheDrowned x = new AnsweredByTheDrowned();
        Checks.feed(x, "still" + " ".repeat(245));
        return x;
    }

    private static void promise13SmallestAndLargest() {
        AnsweredByTheDrowned x = new AnsweredByTheDrowned();
        c.due("feed(0)", x.feed(0), 1);
        c.due("feed(255)", x.feed(255), 2);
        c.due("status(8)", x.status(8), 2);
    }

    private static void promise13AllBytes() {
        AnsweredByTheDrowned x = new AnsweredByTheDrowned();
        for (int i = 1; i <= 250; i++) {
            c.due("the byte of number " + i, x.feed(32), i);
        }
        c.due("one more", x.feed(32), -6);
        c.due("status(8)", x.status(8), 250);
    }

    private static void promise13Bad() {
        for (int letter : new int[] {-1, 256, MIN, MAX}) {
            c.refused("feed(" + letter + ")", Checks::some, x -> x.feed(letter), -2);
        }
    }

    private static void promise13FullBehindBad() {
        c.refused("feed(32) on a full tape", LakeTests::fullTape, x -> x.feed(32), -6);
        c.refused("feed('x') on a full tape", LakeTests::fullTape, x -> x.feed('x'), -6);
        c.refused("feed(256) on a full tape", LakeTests::fullTape, x -> x.feed(256), -2);
        c.refused("feed(-1) on a full tape", LakeTests::fullTape, x -> x.feed(-1), -2);
    }

    // ---- 14: wipe

    private static void promise14EmptyTape() {
        c.asks("wipe() of an empty tape", Checks::full, x -> x.wipe(), 0);
    }

    private static void promise14FullTape() {
        AnsweredByTheDrowned x = fullTape();
        c.due("wipe() of a full tape", x.wipe(), 250);
        c.due("status(8)", x.status(8), 0);
        c.due("wipe() again", x.wipe(), 0);
        c.due("feed(32)", x.feed(32), 1);
        c.due("refusals", Checks.refusals(x), 0);
    }

    private static void promise14WhatWasThereIsGone() {
        AnsweredByTheDrowned x = new AnsweredByTheDrowned();
        Checks.feed(x, "ring sg");
        c.due("wipe()", x.wipe(), 7);
        c.due("lake()", x.lake(), -20);
        Checks.feed(x, "oops");
        c.due("wipe()", x.wipe(), 4);
        c.due("a lake behind it", Checks.read(x, "still"), 1);
    }

    // ---- 15: lake, what is read

    private static void reads(String ahead, String text, int statements, int what, int want) {
        AnsweredByTheDrowned x = Checks.of(ahead);
        c.due("the lake '" + text + "'", Checks.read(x, text), statements);
        c.due("status(" + what + ") behind '" + text + "'", x.status(what), want);
        c.due("THE TAPE behind '" + text + "'", x.status(8), 0);
        c.due("refusals behind '" + text + "'", Checks.refusals(x), 0);
    }

    private static void promise15EachStatement() {
        AnsweredByTheDrowned x = new AnsweredByTheDrowned();
        c.due("statements", Checks.read(x, "law 1 2;law 5 09;use 1;depth 009;miss 100;ring sgg;ring s;person 99"), 8);
        int[] due = {2, 1, 9, 100, 4, 2, 1, 99, 0, 1, 0};
        for (int what = 0; what < due.length; what++) {
            c.due("status(" + what + ")", x.status(what), due[what]);
        }
        c.due("lawOf(0, 0)", x.lawOf(0, 0), 1);
        c.due("lawOf(0, 1)", x.lawOf(0, 1), 2);
        c.due("lawOf(1, 0)", x.lawOf(1, 0), 5);
        c.due("lawOf(1, 1)", x.lawOf(1, 1), 9);
        c.due("steps", Checks.bits(4, x::step), 0b1001);
        c.due("steps behind those there are", Checks.read(x, "ring gs"), 1);
        c.due("steps", Checks.bits(6, x::step), 0b101001);
        c.due("still", Checks.read(x, "still"), 1);
        c.due("status(4)", x.status(4), 0);
    }

    private static void promise15SmallestNumbers() {
        reads("", "law 0 0", 1, 0, 1);
        reads("law 0 0; law 0 0; use 1", "use 0", 1, 1, 0);
        reads("", "depth 0", 1, 2, 0);
        reads("miss 7", "miss 0", 1, 3, 0);
        reads("", "person 1", 1, 7, 1);
        reads("", "ring g", 1, 4, 1);
        reads("", "ring s", 1, 5, 1);
    }

    private static void promise15LargestNumbers() {
        reads("", "law 5 9", 1, 0, 1);
        reads(SIX_LAWS, "use 5", 1, 1, 5);
        reads("", "depth 9", 1, 2, 9);
        reads("", "miss 100", 1, 3, 100);
        reads("", "person 99", 1, 7, 99);
    }

    private static void promise15ThreeDigits() {
        reads("", "law 005 009", 1, 0, 1);
        reads(SIX_LAWS, "use 005", 1, 1, 5);
        reads("", "depth 000", 1, 2, 0);
        reads("", "miss 099", 1, 3, 99);
        reads("", "person 001", 1, 7, 1);
    }

    private static void promise15AsMuchAsThereIsRoomFor() {
        reads("", SIX_LAWS, 6, 0, 6);
        reads("law 0 0", SIX_LAWS.substring(9), 5, 0, 6);
        reads("", TEN_PEOPLE, 10, 6, 10);
        reads("person 9", TEN_PEOPLE.substring(10), 9, 6, 10);
        reads("", "ring " + FORTY, 1, 4, 40);
        reads("", "ring " + FORTY, 1, 5, 20);
        reads("ring " + FORTY.substring(1), "ring s", 1, 4, 40);
        reads("ring s", "ring " + FORTY.substring(1), 1, 4, 40);
        reads("", "ring " + FORTY.substring(20) + ";ring " + FORTY.substring(20), 2, 4, 40);
    }

    private static void promise15StillMakesRoom() {
        reads("", "still", 1, 4, 0);
        reads("ring " + FORTY, "still", 1, 4, 0);
        reads("ring " + FORTY, "still; ring " + FORTY, 2, 4, 40);
        reads("ring " + FORTY, "still; ring g", 2, 5, 0);
        reads("", "ring " + FORTY + "; still", 2, 4, 0);
        reads("", "ring " + FORTY + "; still; ring sg", 3, 4, 2);
    }

    private static void promise15LawsOfTheSameLake() {
        reads("", "law 0 0; use 0", 2, 1, 0);
        reads("law 0 0", "law 0 0; law 1 1; use 2", 3, 1, 2);
        reads("", SIX_LAWS + "; use 5", 7, 1, 5);
        reads("", SIX_LAWS + "; use 5; use 3", 8, 1, 3);
    }

    private static void promise15BlanksAnywhereBetween() {
        reads("", "  still ", 1, 4, 0);
        reads("", " depth   4 ;  depth  5  ", 2, 2, 5);
        reads("", "law2 3;depth4;miss05;use0", 4, 2, 4);
        reads("", "person9;ring g", 2, 6, 1);
        reads("", "law5 9;still;ring s", 3, 4, 1);
    }

    private static void promise15FullTape() {
        AnsweredByTheDrowned x = fullTape();
        c.due("a statement and 245 blanks", x.lake(), 1);
        c.due("status(8)", x.status(8), 0);
        reads("law 0 0", "use0;".repeat(49) + "use0", 50, 1, 0);
        reads("law 0 0", "use0;".repeat(48) + "use0;miss9", 50, 3, 9);
        reads("law 0 0", "use0;".repeat(49) + "use 0", 50, 1, 0);
    }

    private static void promise15SeedShelvesAndKeptStay() {
        AnsweredByTheDrowned x = Checks.some();
        c.due("lake()", x.lake(), 2);
        int[] due = {4, 2, 1, 50, 0, 0, 2, 90, 0, 99, 4};
        for (int what = 0; what < due.length; what++) {
            c.due("status(" + what + ")", x.status(what), due[what]);
        }
        c.due("element(0, 4)", x.element(0, 4), 5);
        x.back();
        c.due("status(9) as it was kept", x.status(9), -7);
        c.due("status(0) as it was kept", x.status(0), 1);
    }

    // ---- 15: lake, the FAULT

    private static void fault(String ahead, String text, int place) {
        Supplier<AnsweredByTheDrowned> made = () -> {
            AnsweredByTheDrowned x = Checks.of(ahead);
            x.row(0, 0, 1);
            return x;
        };
        c.refused("the lake '" + text + "'", made, x -> Checks.read(x, text), -20 - place, -2);
        AnsweredByTheDrowned x = made.get();
        Checks.read(x, text);
        c.due("the tape behind '" + text + "'", x.status(8), 0);
        c.due("a lake behind '" + text + "'", Checks.read(x, "still"), 1);
    }

    private static void promise15NumbersThatMayNotBe() {
        fault("", "law 6 0", 4);
        fault("", "law 0 10", 6);
        fault("", "law 999 0", 4);
        fault("", "law 0 999", 6);
        fault("law 0 0", "use 1", 4);
        fault(SIX_LAWS, "use 6", 4);
        fault("", "use 0", 4);
        fault("", "depth 10", 6);
        fault("", "depth 999", 6);
        fault("", "miss 101", 5);
        fault("", "miss 999", 5);
        fault("", "person 0", 7);
        fault("", "person 000", 7);
        fault("", "person 100", 7);
        fault("", "person 999", 7);
    }

    private static void promise15MoreThanThreeDigits() {
        fault("", "law 0000 1", 4);
        fault("", "law 0 0009", 6);
        fault("law 0 0", "use 0000", 4);
        fault("", "depth 0009", 6);
        fault("", "miss 0100", 5);
        fault("", "miss 4294967296", 5);
        fault("", "person 0001", 7);
        fault("", "person " + "1".repeat(243), 7);
    }

    private static void promise15NoNumberWhereOneIsWanted() {
        fault("", "law law", 4);
        fault("", "law 0 law", 6);
        fault("", "law ;", 4);
        fault("", "law 0 ;", 6);
        fault("law 0 0", "use s", 4);
        fault("", "depth s", 6);
        fault("", "depth;", 5);
        fault("", "miss miss", 5);
        fault("", "person person 1", 7);
        fault("", "depth -1", 6);
    }

    private static void promise15WordsThatAreNoStatement() {
        for (String word : new String[] {"laws", "la", "l", "aw", "xaw", "lax", "lawlaw", "uses", "us", "depths", "dept",
            "misses", "mis", "rings", "rin", "persons", "perso", "stills", "stil", "stilla", "stillz", "astill", "zstill",
            "s", "z"}) {
            fault("", word + " 0 0", 0);
            fault("", "still;" + word + " 0", 6);
        }
        fault("", "Law 0 0", 0);
        fault("", "lAw 0 0", 0);
        fault("", "5", 0);
        fault("", "0law 0 0", 0);
        fault("", "ringss", 0);
    }

    private static void promise15WordsThatAreNoT() {
        fault("", "ring r", 5);
        fault("", "ring h", 5);
        fault("", "ring f", 5);
        fault("", "ring t", 5);
        fault("", "ring sgx", 5);
        fault("", "ring xsg", 5);
        fault("", "ring still", 5);
        fault("", "ring " + FORTY.substring(1) + "x", 5);
        fault("", "ring 5", 5);
        fault("", "ring;", 4);
        fault("", "ring ;s", 5);
        fault("", "ring Sg", 5);
        fault("", "ring sG", 6);
        fault("", "ring sg5", 7);
        fault("", "ring sg gs", 8);
    }

    private static void promise15TooLong() {
        fault("", "ring " + FORTY + "s", 5);
        fault("", "ring " + "g".repeat(245), 5);
        fault("ring s", "ring " + FORTY, 5);
        fault("ring " + FORTY.substring(1), "ring gg", 5);
        fault("", "ring s; ring " + FORTY, 13);
        fault("", "ring s; still; ring " + FORTY + "g", 20);
    }

    private static void promise15NoRoomForALaw() {
        fault(SIX_LAWS, "law 0 0", 0);
        fault(SIX_LAWS, "  law", 2);
        fault(SIX_LAWS, "law;", 0);
        fault(SIX_LAWS, "law 6 0", 0);
        fault(SIX_LAWS, "depth 1; law 9 9", 9);
        fault("law 0 0", SIX_LAWS, 45);
        fault("", SIX_LAWS + ";law 0 0", 53);
    }

    private static void promise15NoRoomForAPerson() {
        fault(TEN_PEOPLE, "person 1", 0);
        fault(TEN_PEOPLE, "person 0", 0);
        fault(TEN_PEOPLE, "still;person", 6);
        fault("person 1", TEN_PEOPLE, 89);
        fault("", TEN_PEOPLE + ";person 1", 99);
    }

    private static void promise15NoRoomForAStep() {
        fault("ring " + FORTY, "ring s", 0);
        fault("ring " + FORTY, "ring", 0);
        fault("ring " + FORTY, "  ring 5", 2);
        fault("ring " + FORTY, "depth 1;ring;", 8);
        fault("ring " + FORTY, "ring " + FORTY + "s", 0);
        fault("ring " + FORTY, "rings s", 0);
        fault("", "ring " + FORTY + "; ring s", 47);
        fault("", "still; ring " + FORTY + "; ring", 54);
        // with room for a STEP it's the WORD behind that can't stand there
        fault("ring " + FORTY.substring(1), "ring", 4);
        fault("ring " + FORTY.substring(1), "ring s; ring s", 8);
    }

    private static void promise15BytesThatBeginNoToken() {
        for (int letter : new int[] {0, 9, 10, 13, 31, 33, 47, 58, 60, 64, 65, 90, 91, 96, 123, 127, 128, 160, 255}) {
            String strange = String.valueOf((char) letter);
            fault("", strange, 0);
            fault("", strange + "still", 0);
            fault("", "still" + strange, 5);
            fault("", "still ; " + strange, 8);
            fault("", "law 0 0" + strange, 7);
            fault("", "law" + strange + " 0 0", 3);
            fault("", "law 0" + strange + "0", 5);
            fault("", "ring" + strange + "s", 4);
            fault("", "ring s" + strange, 6);
            fault("", "depth " + strange + "1", 6);
        }
    }

    private static void promise15TheFirstFaultOfSeveral() {
        fault("", "law 9 99; what", 4);
        fault("", "oops; law 9 9", 0);
        fault("", "still # still oops", 6);
        fault("", "ring sx #", 5);
        fault("", "law 0 0 0; law 9 9", 8);
    }

    private static void promise15WhatCannotStandBehindAStatement() {
        fault("", "still still", 6);
        fault("", "still 0", 6);
        fault("", "law 0 0 0", 8);
        fault("", "law 0 0 law 0 0", 8);
        fault("", "depth 1 s", 8);
        fault("", "person 1 2", 9);
    }

    private static void promise15NoStatement() {
        fault("", ";", 0);
        fault("", " ;still", 1);
        fault("", "still;;still", 6);
        fault("", "law 0 0; ;", 9);
    }

    private static void promise15EndsTooEarly() {
        fault("", "", 0);
        fault("", " ", 1);
        fault("", " ".repeat(250), 250);
        fault("", "law", 3);
        fault("", "law ", 4);
        fault("", "law 0", 5);
        fault("", "law 0  ", 7);
        fault("law 0 0", "use", 3);
        fault("", "depth", 5);
        fault("", "miss  ", 6);
        fault("", "ring", 4);
        fault("", "person", 6);
        fault("", "law 0 0;", 8);
        fault("", "law 0 0; ", 9);
        fault("", "still;" + " ".repeat(244), 250);
        fault("", " ".repeat(246) + "ring", 250);
    }

    private static void promise15FaultAtTheLastByte() {
        fault("", "still" + " ".repeat(244) + "x", 249);
        fault("", " ".repeat(249) + "0", 249);
        fault("", " ".repeat(249) + (char) 255, 249);
    }

    private static void promise15AllOrNothing() {
        String ahead = "law 1 1; law 0 0; use 1; ring sg; person 5; miss 3";
        for (String statement : new String[] {"law 2 2", "use 0", "depth 5", "miss 50", "person 9", "ring s", "still"}) {
            fault(ahead, statement + ";", statement.length() + 1);
            fault(ahead, statement + ";oops", statement.length() + 1);
        }
        fault(ahead, "law 2 2; use 2; depth 5; miss 50; person 9; ring s; still; nothing", 59);
    }

    private static void promise15NothingOfAFaultComesLater() {
        AnsweredByTheDrowned x = new AnsweredByTheDrowned();
        Checks.read(x, "law 2 2; person 4; ring sss; oops");
        c.due("law(5, 5) behind it", x.law(5, 5), 0);
        c.due("lawOf(0, 0)", x.lawOf(0, 0), 5);
        c.due("person(7) behind it", x.person(7), 0);
        c.due("a lake behind it", Checks.read(x, "ring g"), 1);
        c.due("status(0)", x.status(0), 1);
        c.due("status(4)", x.status(4), 1);
        c.due("status(5)", x.status(5), 0);
        c.due("age(0)", x.age(0), 7);
        c.due("status(12)", x.status(12), 1);
    }

    // ---- 16, 17: lawOf, age

    private static void promise16KindAndA() {
        AnsweredByTheDrowned x = Checks.of("law 3 7; law 0 0; law 5 9");
        int[][] due = {{3, 7}, {0, 0}, {5, 9}};
        for (int law = 0; law < 3; law++) {
            c.due("lawOf(" + law + ", 0)", x.lawOf(law, 0), due[law][0]);
            c.due("lawOf(" + law + ", 1)", x.lawOf(law, 1), due[law][1]);
        }
    }

    private static void promise16Bad() {
        for (int law : new int[] {-1, 3, MIN, MAX}) {
            c.refused("lawOf(" + law + ", 0) of three", Checks::some, x -> x.lawOf(law, 0), -2);
        }
        for (int what : new int[] {-1, 2, MIN, MAX}) {
            c.refused("lawOf(0, " + what + ")", Checks::some, x -> x.lawOf(0, what), -2);
        }
        c.refused("lawOf(6, 0) of six", Checks::full, x -> x.lawOf(6, 0), -2);
        c.refused("lawOf(0, 0) without laws", NEW, x -> x.lawOf(0, 0), -2);
        c.asks("lawOf(5, 1) of six", Checks::full, x -> x.lawOf(5, 1), 4);
    }

    private static void promise17FirstAndLast() {
        AnsweredByTheDrowned x = Checks.of("person 44; person 1; person 99");
        c.due("age(0)", x.age(0), 44);
        c.due("age(1)", x.age(1), 1);
        c.due("age(2)", x.age(2), 99);
        c.asks("age(9) of ten", Checks::full, y -> y.age(9), 99);
    }

    private static void promise17Bad() {
        for (int person : new int[] {-1, 2, MIN, MAX}) {
            c.refused("age(" + person + ") of two", Checks::some, x -> x.age(person), -2);
        }
        c.refused("age(10) of ten", Checks::full, x -> x.age(10), -2);
        c.refused("age(0) of nobody", NEW, x -> x.age(0), -2);
    }
}
