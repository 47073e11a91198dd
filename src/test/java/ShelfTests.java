import java.util.function.Supplier;

/** Promises 1 to 8: a new object, and what the SHELVES hold. */
public final class ShelfTests {
    private static final Checks c = new Checks();
    private static final int MIN = Integer.MIN_VALUE;
    private static final int MAX = Integer.MAX_VALUE;
    private static final Supplier<AnsweredByTheDrowned> NEW = AnsweredByTheDrowned::new;

    public static void main(String[] args) {
        c.run(ShelfTests.class);
    }

    // ---- 1: a new object

    private static void promise01NoLawsNoStepsNobody() {
        int[] due = {0, 0, 2, 0, 0, 0, 0, 0, 0, 1, 0, -1, 0, 0, 0, 0, 0};
        AnsweredByTheDrowned x = new AnsweredByTheDrowned();
        for (int what = 0; what < due.length; what++) {
            c.due("status(" + what + ")", x.status(what), due[what]);
        }
        c.refused("lawOf(0, 0)", NEW, y -> y.lawOf(0, 0), -2);
        c.refused("step(0)", NEW, y -> y.step(0), -2);
        c.refused("age(0)", NEW, y -> y.age(0), -2);
        c.due("NONE", AnsweredByTheDrowned.NONE, -1);
    }

    private static void promise01ShelvesHoldNothing() {
        AnsweredByTheDrowned x = new AnsweredByTheDrowned();
        for (int s = 0; s < 8; s++) {
            c.due("holds(" + s + ")", x.holds(s), -1);
            c.due("element(" + s + ", 0)", x.element(s, 0), 0);
        }
    }

    private static void promise01TapeIsEmpty() {
        c.due("wipe()", new AnsweredByTheDrowned().wipe(), 0);
        c.due("lake()", new AnsweredByTheDrowned().lake(), -20);
        c.due("feed(0)", new AnsweredByTheDrowned().feed(0), 1);
    }

    private static void promise01NothingIsKept() {
        c.refused("back()", NEW, x -> x.back(), -5);
    }

    private static void promise01ObjectsHaveNothingInCommon() {
        AnsweredByTheDrowned ahead = new AnsweredByTheDrowned();
        int[] due = {0, 0, 2, 0, 0, 0, 0, 0, 0, 1, 0, -1, 0, 0, 0, 0, 0};
        Checks.some().lake();
        Checks.full().image();
        for (int what = 0; what < due.length; what++) {
            c.due("status(" + what + ") of one made ahead of others", ahead.status(what), due[what]);
        }
        c.alike("one made ahead of others, and one behind", ahead, new AnsweredByTheDrowned());
    }

    // ---- 2: row

    private static void promise02SmallestAndLargest() {
        for (int s = 0; s <= 7; s += 7) {
            for (int sort = 0; sort <= 4; sort++) {
                for (int n : new int[] {0, 1, 39, 40}) {
                    String call = "row(" + s + ", " + sort + ", " + n + ")";
                    AnsweredByTheDrowned x = new AnsweredByTheDrowned();
                    c.due(call, x.row(s, sort, n), 1);
                    c.due("holds behind " + call, x.holds(s), sort);
                    c.due("its last element", x.set(s, n - 1, 1), n == 0 ? -2 : 1);
                    c.due("one behind its last", x.set(s, n, 1), -2);
                    c.due("status(10)", x.status(10), 1);
                }
            }
        }
    }

    private static void promise02BadShelf() {
        for (int s : new int[] {-1, 8, MIN, MAX}) {
            c.refused("row(" + s + ", 0, 1)", Checks::some, x -> x.row(s, 0, 1), -2);
        }
    }

    private static void promise02BadSort() {
        for (int sort : new int[] {-1, 5, 10, MIN, MAX}) {
            c.refused("row(0, " + sort + ", 1)", Checks::some, x -> x.row(0, sort, 1), -2);
        }
    }

    private static void promise02BadSize() {
        for (int n : new int[] {-1, 41, MIN, MAX}) {
            c.refused("row(0, 0, " + n + ")", Checks::some, x -> x.row(0, 0, n), -2);
        }
    }

    private static void promise02NewRowIsZero() {
        for (int sort = 0; sort <= 4; sort++) {
            AnsweredByTheDrowned x = new AnsweredByTheDrowned();
            x.row(7, 3, 40);
            for (int i = 0; i < 40; i++) {
                x.set(7, i, -1);
            }
            x.row(7, sort, 2);
            c.due("row(7, sort, 40)", x.row(7, sort, 40), 1);
            for (int i = 0; i < 40; i++) {
                c.due("element(7, " + i + ") of a new row of sort " + sort, x.element(7, i), 0);
            }
        }
    }

    private static void promise02RowInPlaceOfALaw() {
        AnsweredByTheDrowned x = Checks.of("law 0 0");
        x.show(0, 0);
        c.due("row(0, 1, 2)", x.row(0, 1, 2), 1);
        c.due("holds(0)", x.holds(0), 1);
        c.due("status(10)", x.status(10), 1);
        c.due("the law is there all the same", x.status(0), 1);
    }

    private static void promise02RowsBesideItStay() {
        AnsweredByTheDrowned x = new AnsweredByTheDrowned();
        x.row(2, 2, 40);
        x.row(4, 2, 40);
        x.set(2, 39, 6);
        x.set(4, 0, 7);
        x.row(3, 3, 40);
        x.set(3, 0, 8);
        x.set(3, 39, 9);
        c.due("element(2, 39)", x.element(2, 39), 6);
        c.due("element(4, 0)", x.element(4, 0), 7);
        x.row(3, 0, 40);
        c.due("element(2, 39) behind a new row", x.element(2, 39), 6);
        c.due("element(4, 0) behind a new row", x.element(4, 0), 7);
    }

    // ---- 3: set

    private static void keeps(int sort, long v, long want) {
        AnsweredByTheDrowned x = new AnsweredByTheDrowned();
        x.row(3, sort, 3);
        c.due("set(3, 1, " + v + ")", x.set(3, 1, v), 1);
        c.due("element of sort " + sort + " told " + v, x.element(3, 1), want);
        c.due("the element ahead", x.element(3, 0), 0);
        c.due("the element behind", x.element(3, 2), 0);
    }

    private static void keepsLowestBits(int sort, int bits) {
        long top = 1L << (bits - 1);
        keeps(sort, top - 1, top - 1);
        keeps(sort, -top, -top);
        keeps(sort, top, -top);
        keeps(sort, -top - 1, top - 1);
        keeps(sort, 2 * top - 1, -1);
        keeps(sort, 2 * top, 0);
        keeps(sort, 2 * top + 1, 1);
        keeps(sort, -2 * top, 0);
        keeps(sort, Long.MAX_VALUE, -1);
        keeps(sort, Long.MIN_VALUE, 0);
        keeps(sort, -1, -1);
        keeps(sort, 0, 0);
    }

    private static void promise03BytesKeepTheirLowestBits() {
        keepsLowestBits(0, 8);
    }

    private static void promise03ShortsKeepTheirLowestBits() {
        keepsLowestBits(1, 16);
    }

    private static void promise03IntsKeepTheirLowestBits() {
        keepsLowestBits(2, 32);
    }

    private static void promise03LongsKeepAll() {
        keeps(3, Long.MIN_VALUE, Long.MIN_VALUE);
        keeps(3, Long.MAX_VALUE, Long.MAX_VALUE);
        keeps(3, 1L << 32, 1L << 32);
        keeps(3, -1, -1);
    }

    private static void promise03BooleansKeepWhetherNotZero() {
        keeps(4, 0, 0);
        keeps(4, 1, 1);
        keeps(4, 2, 1);
        keeps(4, -1, 1);
        keeps(4, 256, 1);
        keeps(4, 1L << 32, 1);
        keeps(4, Long.MIN_VALUE, 1);
    }

    private static void promise03FirstAndLast() {
        AnsweredByTheDrowned x = new AnsweredByTheDrowned();
        x.row(7, 3, 40);
        c.due("set(7, 0, 5)", x.set(7, 0, 5), 1);
        c.due("set(7, 39, 6)", x.set(7, 39, 6), 1);
        c.due("set(7, 39, 7) again", x.set(7, 39, 7), 1);
        c.due("element(7, 0)", x.element(7, 0), 5);
        c.due("element(7, 39)", x.element(7, 39), 7);
    }

    private static AnsweredByTheDrowned mixed() {
        AnsweredByTheDrowned x = Checks.of("law 1 4");
        x.show(0, 0);
        x.row(2, 0, 3);
        x.set(2, 0, 7);
        x.set(2, 1, 8);
        x.set(2, 2, 9);
        x.row(3, 1, 2);
        x.row(4, 0, 0);
        x.row(5, 0, 40);
        return x;
    }

    /** mixed(): SHELF 0 a LAW, 1 NOTHING, 2 three bytes, 3 two shorts, 4 no bytes, 5 forty bytes. */
    private static void setRefused(int s, int i, int want) {
        c.refused("set(" + s + ", " + i + ", 1)", ShelfTests::mixed, x -> x.set(s, i, 1), want);
    }

    private static void promise03BadShelf() {
        for (int s : new int[] {-1, 8, MIN, MAX}) {
            setRefused(s, 0, -2);
            setRefused(s, -1, -2);
        }
    }

    private static void promise03OtherAheadOfBadPlace() {
        setRefused(0, 0, -3);
        setRefused(0, -1, -3);
        setRefused(0, 40, -3);
    }

    private static void promise03NothingAheadOfBadPlace() {
        setRefused(1, 0, -4);
        setRefused(1, -1, -4);
        setRefused(1, 40, -4);
    }

    private static void promise03BadPlace() {
        for (int i : new int[] {-1, 3, 40, MIN, MAX}) {
            setRefused(2, i, -2);
        }
        setRefused(4, 0, -2);
        setRefused(4, -1, -2);
        setRefused(5, 40, -2);
        setRefused(5, -1, -2);
    }

    // ---- 4: copy

    private static void copied(int i, int j, int n, long... want) {
        AnsweredByTheDrowned x = Checks.told("", 1, 2, 3, 4, 5);
        c.due("copy(0, 0, " + i + ", " + j + ", " + n + ")", x.copy(0, 0, i, j, n), n);
        for (int k = 0; k < want.length; k++) {
            c.due("element " + k + " after it", x.element(0, k), want[k]);
        }
        c.due("refusals", Checks.refusals(x), 0);
    }

    private static void promise04InOneRowAsTheyWere() {
        copied(0, 1, 4, 1, 1, 2, 3, 4);
        copied(1, 0, 4, 2, 3, 4, 5, 5);
        copied(0, 2, 3, 1, 2, 1, 2, 3);
        copied(2, 0, 3, 3, 4, 5, 4, 5);
        copied(2, 2, 3, 1, 2, 3, 4, 5);
        copied(0, 0, 5, 1, 2, 3, 4, 5);
        copied(4, 0, 1, 5, 2, 3, 4, 5);
    }

    private static void promise04NoElements() {
        copied(0, 0, 0, 1, 2, 3, 4, 5);
        copied(4, 1, 0, 1, 2, 3, 4, 5);
        copied(5, 5, 0, 1, 2, 3, 4, 5);
        c.asks("copy(4, 2, 0, 0, 0) from an empty row", ShelfTests::mixed, x -> x.copy(4, 2, 0, 0, 0), 0);
        c.asks("copy(2, 4, 0, 0, 0) to an empty row", ShelfTests::mixed, x -> x.copy(2, 4, 0, 0, 0), 0);
    }

    private static void promise04OneElementOfEmptyRow() {
        c.refused("copy(4, 2, 0, 0, 1)", ShelfTests::mixed, x -> x.copy(4, 2, 0, 0, 1), -2);
        c.refused("copy(2, 4, 0, 0, 1)", ShelfTests::mixed, x -> x.copy(2, 4, 0, 0, 1), -2);
        c.refused("copy(4, 4, 1, 0, 0)", ShelfTests::mixed, x -> x.copy(4, 4, 1, 0, 0), -2);
    }

    private static void promise04BetweenTwoRows() {
        AnsweredByTheDrowned x = Checks.told("", 1, 2, 3);
        Checks.put(x, 7, 9, 9, 9, 9);
        c.due("copy(0, 7, 1, 0, 2)", x.copy(0, 7, 1, 0, 2), 2);
        long[] want = {2, 3, 9, 9};
        for (int i = 0; i < want.length; i++) {
            c.due("element(7, " + i + ")", x.element(7, i), want[i]);
        }
        c.due("element(0, 1)", x.element(0, 1), 2);
        c.due("copy(7, 0, 0, 1, 2)", x.copy(7, 0, 0, 1, 2), 2);
        c.due("element(0, 0)", x.element(0, 0), 1);
        c.due("element(0, 1)", x.element(0, 1), 2);
        c.due("element(0, 2)", x.element(0, 2), 3);
    }

    private static void promise04AllFortyOfEachSort() {
        for (int sort = 0; sort <= 4; sort++) {
            AnsweredByTheDrowned x = new AnsweredByTheDrowned();
            x.row(0, sort, 40);
            x.row(7, sort, 40);
            for (int i = 0; i < 40; i++) {
                x.set(0, i, sort == 4 ? i % 3 : i - 20);
            }
            c.due("copy(0, 7, 0, 0, 40)", x.copy(0, 7, 0, 0, 40), 40);
            for (int i = 0; i < 40; i++) {
                c.due("element(7, " + i + ") of sort " + sort, x.element(7, i), x.element(0, i));
            }
            c.due("copy(0, 7, 0, 1, 40)", x.copy(0, 7, 0, 1, 40), -2);
            c.due("copy(0, 7, 0, 0, 41)", x.copy(0, 7, 0, 0, 41), -2);
        }
    }

    private static void copyRefused(int p, int q, int i, int j, int n, int want) {
        c.refused("copy(" + p + ", " + q + ", " + i + ", " + j + ", " + n + ")", ShelfTests::mixed,
                x -> x.copy(p, q, i, j, n), want);
    }

    private static void promise04BadShelvesFirst() {
        for (int none : new int[] {-1, 8, MIN, MAX}) {
            copyRefused(none, 2, 0, 0, 1, -2);
            copyRefused(2, none, 0, 0, 1, -2);
            copyRefused(none, none, 0, 0, 1, -2);
            copyRefused(none, 2, 0, 0, 0, -2);
            copyRefused(2, none, 0, 0, 0, -2);
            copyRefused(none, none, 0, 0, 0, -2);
            copyRefused(none, 0, 0, 0, 1, -2);
            copyRefused(0, none, 0, 0, 1, -2);
            copyRefused(none, 1, 0, 0, 1, -2);
            copyRefused(1, none, 0, 0, 1, -2);
        }
    }

    private static void promise04OtherAheadOfNothingAndBadPlaces() {
        copyRefused(0, 2, 0, 0, 1, -3);
        copyRefused(2, 0, 0, 0, -1, -3);
        copyRefused(0, 0, 0, 0, 0, -3);
        copyRefused(1, 0, 0, 0, 1, -3);
        copyRefused(0, 1, 0, 0, 1, -3);
    }

    private static void promise04OtherOfTwoSorts() {
        copyRefused(2, 3, 0, 0, 1, -3);
        copyRefused(3, 2, 0, 0, 1, -3);
        copyRefused(2, 3, 0, 0, 9, -3);
        copyRefused(4, 3, 0, 0, 0, -3);
    }

    private static void promise04NothingAheadOfBadPlaces() {
        copyRefused(1, 2, 0, 0, 1, -4);
        copyRefused(2, 1, 0, 0, 1, -4);
        copyRefused(3, 1, 0, 0, 1, -4);
        copyRefused(1, 1, 0, 0, 1, -4);
        copyRefused(1, 2, 0, 0, 9, -4);
        copyRefused(2, 1, -1, 0, 1, -4);
    }

    private static void promise04BadPlaces() {
        copyRefused(2, 2, -1, 0, 1, -2);
        copyRefused(2, 2, 0, -1, 1, -2);
        copyRefused(2, 2, 0, 0, -1, -2);
        copyRefused(2, 2, 3, 0, 1, -2);
        copyRefused(2, 2, 0, 3, 1, -2);
        copyRefused(2, 2, 0, 0, 4, -2);
        copyRefused(2, 2, 1, 0, 3, -2);
        copyRefused(2, 2, 0, 1, 3, -2);
        copyRefused(2, 2, 4, 0, 0, -2);
        copyRefused(2, 2, 0, 4, 0, -2);
        copyRefused(2, 5, 0, 0, 4, -2);
        copyRefused(5, 2, 0, 0, 4, -2);
    }

    private static void promise04NumbersThatWouldWrapAround() {
        copyRefused(2, 2, 1, 1, MAX, -2);
        copyRefused(2, 2, MAX, 0, 1, -2);
        copyRefused(2, 2, 0, MAX, 1, -2);
        copyRefused(2, 2, MAX, MAX, MAX, -2);
        copyRefused(2, 2, MIN, 0, 1, -2);
        copyRefused(2, 2, 0, MIN, 1, -2);
        copyRefused(2, 2, 0, 0, MIN, -2);
        copyRefused(2, 2, 3, 3, MIN, -2);
    }

    // ---- 5: element

    private static void promise05FirstAndLast() {
        AnsweredByTheDrowned x = mixed();
        c.due("element(2, 0)", x.element(2, 0), 7);
        c.due("element(2, 2)", x.element(2, 2), 9);
        x.set(5, 39, 4);
        c.due("element(5, 39)", x.element(5, 39), 4);
    }

    private static void promise05NoneIsZeroAndNotRefused() {
        for (int i : new int[] {-1, 3, 40, 120, MIN, MAX}) {
            c.asks("element(2, " + i + ")", ShelfTests::mixed, x -> x.element(2, i), 0);
        }
        c.asks("element(4, 0) of an empty row", ShelfTests::mixed, x -> x.element(4, 0), 0);
        c.asks("element(5, 40) of a full row", ShelfTests::mixed, x -> x.element(5, 40), 0);
        AnsweredByTheDrowned x = new AnsweredByTheDrowned();
        x.row(2, 3, 40);
        x.row(3, 3, 40);
        x.set(2, 39, 8);
        x.set(3, 0, 7);
        c.due("element(2, 40), where the next row begins", x.element(2, 40), 0);
        c.due("element(3, -1), where the row ahead ends", x.element(3, -1), 0);
    }

    private static void promise05NoRowIsZeroAndNotRefused() {
        c.asks("element(0, 0) of a law", ShelfTests::mixed, x -> x.element(0, 0), 0);
        c.asks("element(1, 0) of nothing", ShelfTests::mixed, x -> x.element(1, 0), 0);
        for (int s : new int[] {-1, 8, MIN, MAX}) {
            c.asks("element(" + s + ", 0)", ShelfTests::mixed, x -> x.element(s, 0), 0);
        }
    }

    private static void promise05OfAShorterRow() {
        AnsweredByTheDrowned x = mixed();
        x.row(2, 0, 2);
        c.due("element(2, 2) of a shorter row", x.element(2, 2), 0);
        x.row(2, 0, 3);
        c.due("element(2, 2) of a new row", x.element(2, 2), 0);
        x.set(2, 2, 5);
        x.show(2, -1);
        c.due("element(2, 2) where a row was", x.element(2, 2), 0);
    }

    // ---- 6: holds

    private static void promise06EverySort() {
        AnsweredByTheDrowned x = new AnsweredByTheDrowned();
        for (int sort = 0; sort <= 4; sort++) {
            x.row(sort, sort, sort == 1 ? 0 : 40);
            c.due("holds(" + sort + ")", x.holds(sort), sort);
        }
    }

    private static void promise06EveryLaw() {
        AnsweredByTheDrowned x = Checks.of(Checks.SIX_LAWS);
        for (int law = 0; law < 6; law++) {
            x.show(7 - law, law);
            c.due("holds(" + (7 - law) + ")", x.holds(7 - law), 10 + law);
        }
    }

    private static void promise06NothingAndNoShelf() {
        c.asks("holds(1)", ShelfTests::mixed, x -> x.holds(1), -1);
        for (int s : new int[] {-1, 8, MIN, MAX}) {
            c.asks("holds(" + s + ")", ShelfTests::mixed, x -> x.holds(s), -1);
        }
    }

    // ---- 7: show

    private static void promise07FirstAndLast() {
        AnsweredByTheDrowned x = Checks.of(Checks.SIX_LAWS);
        for (int s = 0; s <= 7; s += 7) {
            for (int law = 0; law <= 5; law += 5) {
                c.due("show(" + s + ", " + law + ")", x.show(s, law), 1);
                c.due("holds(" + s + ")", x.holds(s), 10 + law);
            }
        }
        c.due("status(10)", x.status(10), 2);
    }

    private static void promise07Nothing() {
        AnsweredByTheDrowned x = mixed();
        c.due("show(0, NONE) of a law", x.show(0, -1), 1);
        c.due("holds(0)", x.holds(0), -1);
        c.due("show(2, NONE) of a row", x.show(2, -1), 1);
        c.due("holds(2)", x.holds(2), -1);
        c.due("element(2, 0)", x.element(2, 0), 0);
        c.due("show(1, NONE) of nothing", x.show(1, -1), 1);
        c.due("holds(1)", x.holds(1), -1);
        c.due("show(7, NONE)", x.show(7, -1), 1);
        c.due("status(10)", x.status(10), 3);
        c.due("show(0, NONE) without laws", new AnsweredByTheDrowned().show(0, -1), 1);
        c.due("refusals", Checks.refusals(x), 0);
    }

    private static void promise07ALawInPlaceOfARow() {
        AnsweredByTheDrowned x = mixed();
        c.due("show(2, 0)", x.show(2, 0), 1);
        c.due("holds(2)", x.holds(2), 10);
        c.due("element(2, 0)", x.element(2, 0), 0);
        c.due("set(2, 0, 1)", x.set(2, 0, 1), -3);
    }

    private static void promise07Bad() {
        for (int s : new int[] {-1, 8, MIN, MAX}) {
            c.refused("show(" + s + ", 0)", Checks::some, x -> x.show(s, 0), -2);
            c.refused("show(" + s + ", NONE)", Checks::some, x -> x.show(s, -1), -2);
        }
        for (int law : new int[] {-2, 3, MIN, MAX}) {
            c.refused("show(0, " + law + ") of three laws", Checks::some, x -> x.show(0, law), -2);
        }
        c.refused("show(0, 6) of six laws", Checks::full, x -> x.show(0, 6), -2);
        c.refused("show(0, 0) without laws", NEW, x -> x.show(0, 0), -2);
    }

    // ---- 8: says

    /** LAW n of KIND n on SHELF n, in sgsgg; a ROW on 6, NOTHING on 7. */
    private static AnsweredByTheDrowned everyKind() {
        AnsweredByTheDrowned x = Checks.of("law 0 9; law 1 3; law 2 1; law 3 5; law 4 1; law 5 1; ring sgsgg");
        for (int law = 0; law < 6; law++) {
            x.show(law, law);
        }
        x.row(6, 0, 1);
        return x;
    }

    private static void promise08TakenForALawItsA() {
        AnsweredByTheDrowned x = everyKind();
        int[] a = {9, 3, 1, 5, 1, 1};
        for (int law = 0; law < 6; law++) {
            c.due("says(" + law + ", 0)", x.says(law, 0), a[law]);
        }
        AnsweredByTheDrowned y = Checks.of("law 3 0; law 4 9");
        y.show(0, 0);
        y.show(7, 1);
        c.due("the least a", y.says(0, 0), 0);
        c.due("the greatest a", y.says(7, 0), 9);
    }

    private static void promise08HowManyStepsAheadItLooks() {
        AnsweredByTheDrowned x = Checks.of("law 1 0; law 1 9; law 3 0; law 3 9");
        int[] due = {1, 10, 2, 11};
        for (int law = 0; law < 4; law++) {
            x.show(law, law);
            c.due("law " + law + " taken for an ECHO", x.says(law, 1), due[law]);
            if (law >= 2) {
                c.due("law " + law + " taken for a LATE", x.says(law, 3), due[law]);
            }
        }
    }

    private static void promise08HowOftenItWouldStrike() {
        AnsweredByTheDrowned x = everyKind();
        c.due("a GAPPED", x.says(2, 2), 1);
        c.due("a COUNTER", x.says(4, 4), 2);
        c.due("a COUNTER taken for a GAPPED, by its own kind", x.says(4, 2), 2);
        c.due("an HOURS", x.says(5, 5), 2);
        x.use(5);
        c.due("whatever is IN FORCE", x.says(4, 4), 2);
        x.still();
        c.due("a GAPPED without steps", x.says(2, 2), 0);
        c.due("a COUNTER without steps", x.says(4, 4), 0);
        c.due("an HOURS without steps", x.says(5, 5), 0);
        Checks.read(x, "ring " + "g".repeat(40));
        c.due("a GAPPED in forty gaps", x.says(2, 2), 39);
        c.due("a COUNTER in forty gaps", x.says(4, 4), 40);
        c.due("an HOURS in forty", x.says(5, 5), 14);
    }

    private static void saysRefused(int s, int kind, int want) {
        c.refused("says(" + s + ", " + kind + ")", ShelfTests::everyKind, x -> x.says(s, kind), want);
    }

    private static void promise08OtherOfNoSuchKind() {
        int[][] taken = {{0}, {0, 1}, {0, 2}, {0, 1, 3}, {0, 2, 4}, {0, 5}};
        for (int law = 0; law < 6; law++) {
            for (int kind = 0; kind < 6; kind++) {
                int sought = kind;
                if (java.util.Arrays.stream(taken[law]).noneMatch(one -> one == sought)) {
                    saysRefused(law, kind, -3);
                }
            }
        }
    }

    private static void promise08OtherNothingBad() {
        for (int kind = 0; kind < 6; kind++) {
            saysRefused(6, kind, -3);
            saysRefused(7, kind, -4);
        }
        for (int s : new int[] {-1, 8, MIN, MAX}) {
            saysRefused(s, 0, -2);
        }
        for (int s : new int[] {0, 6, 7}) {
            saysRefused(s, -1, -2);
            saysRefused(s, 6, -2);
            saysRefused(s, MIN, -2);
            saysRefused(s, MAX, -2);
        }
    }
}
