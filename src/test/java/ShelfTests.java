import java.util.function.Supplier;

/** Promises 1 to 8: a new object, and what the SHELVES hold. */
public final class ShelfTests {
    private static final Checks c = new Checks();

    public static void main(String[] args) {
        newObject();
        row();
        set();
        copy();
        copyRefused();
        element();
        holds();
        show();
        says();
        saysRefused();
        c.finish();
    }

    private static void newObject() {
        c.promise(1);
        AnsweredByTheDrowned x = new AnsweredByTheDrowned();
        int[] due = {0, 0, 2, 0, 0, 0, 0, 0, 0, 1, 0, -1, 0, 0, 0, 0, 0};
        for (int what = 0; what < due.length; what++) {
            c.due("status(" + what + ")", x.status(what), due[what]);
        }
        for (int s = 0; s < 8; s++) {
            c.due("holds(" + s + ")", x.holds(s), -1);
        }
        c.due("NONE", AnsweredByTheDrowned.NONE, -1);
        c.due("lake() of an empty tape", x.lake(), -20);
    }

    private static void row() {
        c.promise(2);
        AnsweredByTheDrowned x = new AnsweredByTheDrowned();
        c.due("row(0, 0, 0)", x.row(0, 0, 0), 1);
        c.due("holds(0)", x.holds(0), 0);
        c.due("row(7, 4, 40)", x.row(7, 4, 40), 1);
        c.due("holds(7)", x.holds(7), 4);
        c.due("set(7, 39, 5)", x.set(7, 39, 5), 1);
        c.due("set(7, 0, 5)", x.set(7, 0, 5), 1);
        c.due("set(7, 40, 5)", x.set(7, 40, 5), -2);
        c.due("row(7, 3, 40) again", x.row(7, 3, 40), 1);
        c.due("element(7, 39) of a new row", x.element(7, 39), 0);
        c.due("element(7, 0) of a new row", x.element(7, 0), 0);
        x.law(0, 0);
        x.show(0, 0);
        c.due("row(0, 1, 2) where a law was", x.row(0, 1, 2), 1);
        c.due("holds(0)", x.holds(0), 1);
        Supplier<AnsweredByTheDrowned> made = AnsweredByTheDrowned::new;
        c.refused("row(-1, 0, 1)", made, y -> y.row(-1, 0, 1), -2);
        c.refused("row(8, 0, 1)", made, y -> y.row(8, 0, 1), -2);
        c.refused("row(0, -1, 1)", made, y -> y.row(0, -1, 1), -2);
        c.refused("row(0, 5, 1)", made, y -> y.row(0, 5, 1), -2);
        c.refused("row(0, 0, -1)", made, y -> y.row(0, 0, -1), -2);
        c.refused("row(0, 0, 41)", made, y -> y.row(0, 0, 41), -2);
        c.refused("row(0, 0, MIN)", made, y -> y.row(0, 0, Integer.MIN_VALUE), -2);
    }

    private static void keeps(int sort, long v, long want) {
        AnsweredByTheDrowned x = new AnsweredByTheDrowned();
        x.row(3, sort, 2);
        c.due("set(3, 1, " + v + ")", x.set(3, 1, v), 1);
        c.due("element of sort " + sort + " told " + v, x.element(3, 1), want);
        c.due("the element beside it", x.element(3, 0), 0);
    }

    /** Shelves: 0 a LAW, 1 NOTHING, 2 a ROW of 3 bytes, 3 a ROW of 2 shorts. */
    private static AnsweredByTheDrowned mixed() {
        AnsweredByTheDrowned x = Checks.of("law 1 4");
        x.show(0, 0);
        x.row(2, 0, 3);
        x.set(2, 0, 7);
        x.set(2, 1, 8);
        x.set(2, 2, 9);
        x.row(3, 1, 2);
        return x;
    }

    private static void set() {
        c.promise(3);
        keeps(0, 200, -56);
        keeps(0, 127, 127);
        keeps(0, -129, 127);
        keeps(0, 256, 0);
        keeps(1, 40000, -25536);
        keeps(1, 65536, 0);
        keeps(2, 1L << 31, Integer.MIN_VALUE);
        keeps(2, 1L << 32, 0);
        keeps(3, Long.MIN_VALUE, Long.MIN_VALUE);
        keeps(3, 1L << 40, 1L << 40);
        keeps(4, 2, 1);
        keeps(4, 1L << 40, 1);
        keeps(4, -1, 1);
        keeps(4, 0, 0);
        c.refused("set(8, 0, 1)", ShelfTests::mixed, x -> x.set(8, 0, 1), -2);
        c.refused("set(-1, 0, 1)", ShelfTests::mixed, x -> x.set(-1, 0, 1), -2);
        c.refused("set(0, 0, 1)", ShelfTests::mixed, x -> x.set(0, 0, 1), -3);
        c.refused("set(0, -1, 1)", ShelfTests::mixed, x -> x.set(0, -1, 1), -3);
        c.refused("set(1, 0, 1)", ShelfTests::mixed, x -> x.set(1, 0, 1), -4);
        c.refused("set(1, 99, 1)", ShelfTests::mixed, x -> x.set(1, 99, 1), -4);
        c.refused("set(2, 3, 1)", ShelfTests::mixed, x -> x.set(2, 3, 1), -2);
        c.refused("set(2, -1, 1)", ShelfTests::mixed, x -> x.set(2, -1, 1), -2);
    }

    private static void copied(int i, int j, int n, long... want) {
        AnsweredByTheDrowned x = new AnsweredByTheDrowned();
        Checks.put(x, 0, 1, 2, 3, 4, 5);
        c.due("copy(0, 0, " + i + ", " + j + ", " + n + ")", x.copy(0, 0, i, j, n), n);
        for (int k = 0; k < want.length; k++) {
            c.due("element " + k + " after it", x.element(0, k), want[k]);
        }
    }

    private static void copy() {
        c.promise(4);
        copied(0, 1, 4, 1, 1, 2, 3, 4);
        copied(1, 0, 4, 2, 3, 4, 5, 5);
        copied(2, 2, 3, 1, 2, 3, 4, 5);
        copied(0, 0, 0, 1, 2, 3, 4, 5);
        copied(5, 5, 0, 1, 2, 3, 4, 5);
        AnsweredByTheDrowned x = new AnsweredByTheDrowned();
        Checks.put(x, 0, 1, 2, 3);
        Checks.put(x, 7, 9, 9, 9, 9);
        c.due("copy(0, 7, 1, 0, 2)", x.copy(0, 7, 1, 0, 2), 2);
        long[] want = {2, 3, 9, 9};
        for (int i = 0; i < want.length; i++) {
            c.due("element(7, " + i + ")", x.element(7, i), want[i]);
        }
        c.due("element(0, 1)", x.element(0, 1), 2);
        c.due("copy(7, 0, 0, 1, 2)", x.copy(7, 0, 0, 1, 2), 2);
        c.due("element(0, 2)", x.element(0, 2), 3);
    }

    private static void copyRefused() {
        Supplier<AnsweredByTheDrowned> made = ShelfTests::mixed;
        c.refused("copy(-1, 0, ..)", made, x -> x.copy(-1, 0, 0, 0, 1), -2);
        c.refused("copy(0, 8, ..)", made, x -> x.copy(0, 8, 0, 0, 1), -2);
        c.refused("copy(1, 8, ..)", made, x -> x.copy(1, 8, 0, 0, 1), -2);
        c.refused("copy(0, 2, ..)", made, x -> x.copy(0, 2, 0, 0, 1), -3);
        c.refused("copy(2, 0, ..)", made, x -> x.copy(2, 0, 0, 0, -1), -3);
        c.refused("copy(1, 0, ..)", made, x -> x.copy(1, 0, 0, 0, 1), -3);
        c.refused("copy(0, 1, ..)", made, x -> x.copy(0, 1, 0, 0, 1), -3);
        c.refused("copy(1, 2, ..)", made, x -> x.copy(1, 2, 0, 0, 9), -4);
        c.refused("copy(2, 3, ..)", made, x -> x.copy(2, 3, 0, 0, 9), -3);
        c.refused("copy(2, 1, ..)", made, x -> x.copy(2, 1, -1, 0, 1), -4);
        c.refused("copy(1, 1, ..)", made, x -> x.copy(1, 1, 0, 0, 1), -4);
        c.refused("copy(2, 2, -1, 0, 1)", made, x -> x.copy(2, 2, -1, 0, 1), -2);
        c.refused("copy(2, 2, 0, -1, 1)", made, x -> x.copy(2, 2, 0, -1, 1), -2);
        c.refused("copy(2, 2, 0, 0, -1)", made, x -> x.copy(2, 2, 0, 0, -1), -2);
        c.refused("copy(2, 2, 0, 0, 4)", made, x -> x.copy(2, 2, 0, 0, 4), -2);
        c.refused("copy(2, 2, 1, 0, 3)", made, x -> x.copy(2, 2, 1, 0, 3), -2);
        c.refused("copy(2, 2, 0, 1, 3)", made, x -> x.copy(2, 2, 0, 1, 3), -2);
        c.refused("copy(2, 2, 4, 0, 0)", made, x -> x.copy(2, 2, 4, 0, 0), -2);
        c.refused("copy(2, 2, 1, 1, MAX)", made, x -> x.copy(2, 2, 1, 1, Integer.MAX_VALUE), -2);
        c.refused("copy(2, 2, MAX, 0, 1)", made, x -> x.copy(2, 2, Integer.MAX_VALUE, 0, 1), -2);
    }

    private static void element() {
        c.promise(5);
        AnsweredByTheDrowned x = mixed();
        c.due("element(2, 0)", x.element(2, 0), 7);
        c.due("element(2, 2)", x.element(2, 2), 9);
        c.due("element(2, 3)", x.element(2, 3), 0);
        c.due("element(2, -1)", x.element(2, -1), 0);
        c.due("element(0, 0) of a law", x.element(0, 0), 0);
        c.due("element(1, 0) of nothing", x.element(1, 0), 0);
        c.due("element(-1, 0)", x.element(-1, 0), 0);
        c.due("element(8, 0)", x.element(8, 0), 0);
        for (int what = 12; what <= 16; what++) {
            c.due("refusals", x.status(what), 0);
        }
        x.row(2, 0, 2);
        c.due("element(2, 2) of a shorter row", x.element(2, 2), 0);
        x.row(2, 0, 3);
        c.due("element(2, 2) of a new row", x.element(2, 2), 0);
    }

    private static void holds() {
        c.promise(6);
        AnsweredByTheDrowned x = Checks.of("law 0 0; law 5 3; law 2 2");
        for (int sort = 0; sort <= 4; sort++) {
            x.row(sort, sort, 1);
            c.due("holds(" + sort + ")", x.holds(sort), sort);
        }
        x.show(5, 0);
        x.show(6, 2);
        c.due("holds(5)", x.holds(5), 10);
        c.due("holds(6)", x.holds(6), 12);
        c.due("holds(7)", x.holds(7), -1);
        c.due("holds(8)", x.holds(8), -1);
        c.due("holds(-1)", x.holds(-1), -1);
        c.due("refusals", x.status(12), 0);
    }

    private static void show() {
        c.promise(7);
        AnsweredByTheDrowned x = mixed();
        c.due("show(2, 0)", x.show(2, 0), 1);
        c.due("holds(2)", x.holds(2), 10);
        c.due("show(2, NONE)", x.show(2, -1), 1);
        c.due("holds(2)", x.holds(2), -1);
        c.due("show(3, NONE) of a row", x.show(3, -1), 1);
        c.due("holds(3)", x.holds(3), -1);
        c.due("show(1, NONE) of nothing", x.show(1, -1), 1);
        Checks.put(x, 4, 5, 6);
        x.show(4, -1);
        c.due("element(4, 0) where a row was", x.element(4, 0), 0);
        Checks.put(x, 4, 5, 6);
        x.show(4, 0);
        c.due("element(4, 0) where a law is", x.element(4, 0), 0);
        c.refused("show(0, 1)", ShelfTests::mixed, y -> y.show(0, 1), -2);
        c.refused("show(0, -2)", ShelfTests::mixed, y -> y.show(0, -2), -2);
        c.refused("show(8, 0)", ShelfTests::mixed, y -> y.show(8, 0), -2);
        c.refused("show(-1, -1)", ShelfTests::mixed, y -> y.show(-1, -1), -2);
    }

    /** LAW n of KIND n on shelf n; a ROW on 6, NOTHING on 7. */
    private static AnsweredByTheDrowned everyKind() {
        AnsweredByTheDrowned x = Checks.of("law 0 9; law 1 3; law 2 1; law 3 5; law 4 1; law 5 1; ring sgsgg");
        for (int law = 0; law < 6; law++) {
            x.show(law, law);
        }
        x.row(6, 0, 1);
        return x;
    }

    private static void says() {
        c.promise(8);
        AnsweredByTheDrowned x = everyKind();
        int[] a = {9, 3, 1, 5, 1, 1};
        for (int law = 0; law < 6; law++) {
            c.due("says(" + law + ", 0)", x.says(law, 0), a[law]);
        }
        c.due("an ECHO says how far it looks", x.says(1, 1), 4);
        c.due("a LATE says how far it looks", x.says(3, 3), 7);
        c.due("a LATE taken for an ECHO", x.says(3, 1), 7);
        c.due("a GAPPED says how often", x.says(2, 2), 1);
        c.due("a COUNTER says how often", x.says(4, 4), 2);
        c.due("a COUNTER taken for a GAPPED", x.says(4, 2), 2);
        c.due("an HOURS says how often", x.says(5, 5), 2);
        x.use(5);
        c.due("whatever is in force", x.says(4, 4), 2);
    }

    private static void saysRefused() {
        Supplier<AnsweredByTheDrowned> made = ShelfTests::everyKind;
        int[][] under = {{}, {0}, {0}, {1, 0}, {2, 0}, {0}};
        for (int law = 0; law < 6; law++) {
            for (int kind = 0; kind < 6; kind++) {
                boolean is = kind == law;
                for (int above : under[law]) {
                    is |= above == kind;
                }
                if (!is) {
                    int s = law;
                    int k = kind;
                    c.refused("says(" + s + ", " + k + ")", made, x -> x.says(s, k), -3);
                }
            }
        }
        c.refused("says(6, 0) of a row", made, x -> x.says(6, 0), -3);
        c.refused("says(7, 0) of nothing", made, x -> x.says(7, 0), -4);
        c.refused("says(7, 6)", made, x -> x.says(7, 6), -2);
        c.refused("says(0, -1)", made, x -> x.says(0, -1), -2);
        c.refused("says(8, 0)", made, x -> x.says(8, 0), -2);
        c.refused("says(-1, 0)", made, x -> x.says(-1, 0), -2);
    }
}
