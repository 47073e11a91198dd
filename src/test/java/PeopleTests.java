import java.util.function.Supplier;

/** Promises 50 to 57: days by remainders, and for whom it tolls. */
public final class PeopleTests {
    private static final Checks c = new Checks();

    private static final String TEN = "person 1; person 2; person 4; person 8; person 16;"
            + "person 32; person 64; person 99; person 99; person 99";

    public static void main(String[] args) {
        day();
        tolls();
        meet();
        sum();
        reached();
        halves();
        ranked();
        oldest();
        c.finish();
    }

    private static Supplier<AnsweredByTheDrowned> made(String text) {
        return () -> Checks.of(text);
    }

    private static void day() {
        c.promise(50);
        AnsweredByTheDrowned x = Checks.of("");
        c.due("day(5, 3, 7, 2)", x.day(5, 3, 7, 2), 23);
        c.due("day(1, 0, 1, 0)", x.day(1, 0, 1, 0), 0);
        c.due("day(4, 1, 6, 5)", x.day(4, 1, 6, 5), 5);
        c.due("day(4, 1, 6, 2)", x.day(4, 1, 6, 2), -1);
        c.due("day(99, 98, 98, 97)", x.day(99, 98, 98, 97), 9701);
        c.due("day(99, 0, 99, 1)", x.day(99, 0, 99, 1), -1);
        c.due("refusals", x.status(12), 0);
        int[][] bad = {{0, 0, 1, 0}, {100, 0, 1, 0}, {1, 0, 0, 0}, {1, 0, 100, 0}, {5, 5, 1, 0}, {5, -1, 1, 0},
            {1, 0, 5, 5}, {1, 0, 5, -1}, {-5, 0, 1, 0}};
        for (int[] one : bad) {
            c.refused("day(" + java.util.Arrays.toString(one) + ")", made(""),
                    y -> y.day(one[0], one[1], one[2], one[3]), -2);
        }
    }

    private static void tolls() {
        c.promise(51);
        AnsweredByTheDrowned x = Checks.of("person 40; person 21; person 61; person 7");
        c.due("tolls(61, 0)", x.tolls(61, 0), 2);
        c.due("tolls(61, 1)", x.tolls(61, 1), 0b0100);
        c.due("tolls(68, 0)", x.tolls(68, 0), 2);
        c.due("tolls(68, 1)", x.tolls(68, 1), 0b1100);
        c.due("tolls(129, 1)", x.tolls(129, 1), 0b1111);
        c.due("tolls(0, 0)", x.tolls(0, 0), 1);
        c.due("tolls(0, 1)", x.tolls(0, 1), 0);
        c.due("tolls(5, 0)", x.tolls(5, 0), 0);
        c.due("tolls(5, 1)", x.tolls(5, 1), -1);
        c.due("refusals", x.status(12), 0);
        AnsweredByTheDrowned y = Checks.of("person 10; person 20; person 10; person 20");
        c.due("tolls(30, 0)", y.tolls(30, 0), 4);
        c.due("tolls(30, 1)", y.tolls(30, 1), 0b0011);
        c.due("fewest ahead of least", Checks.of("person 1; person 2; person 3").tolls(3, 1), 0b100);
        c.due("tolls(424, 0)", Checks.of(TEN).tolls(424, 0), 1);
        c.due("tolls(424, 1)", Checks.of(TEN).tolls(424, 1), 1023);
        c.due("tolls(1, 0) of nobody", Checks.of("").tolls(1, 0), 0);
        c.refused("tolls(1000, 0)", made(TEN), z -> z.tolls(1000, 0), -2);
        c.refused("tolls(-1, 0)", made(TEN), z -> z.tolls(-1, 0), -2);
        c.refused("tolls(0, 2)", made(TEN), z -> z.tolls(0, 2), -2);
        c.refused("tolls(0, -1)", made(TEN), z -> z.tolls(0, -1), -2);
        c.due("tolls(999, 0)", Checks.of(TEN).tolls(999, 0), 0);
    }

    private static void meet() {
        c.promise(52);
        AnsweredByTheDrowned x = Checks.of("");
        c.due("meet(1, 1)", x.meet(1, 1), 1);
        c.due("meet(4, 6)", x.meet(4, 6), 12);
        c.due("meet(7, 7)", x.meet(7, 7), 7);
        c.due("meet(99, 98)", x.meet(99, 98), 9702);
        c.due("meet(50, 5)", x.meet(50, 5), 50);
        int[][] bad = {{0, 1}, {1, 0}, {100, 1}, {1, 100}, {-2, 4}};
        for (int[] one : bad) {
            c.refused("meet(" + one[0] + ", " + one[1] + ")", made(""), y -> y.meet(one[0], one[1]), -2);
        }
    }

    private static void sum() {
        c.promise(53);
        AnsweredByTheDrowned x = Checks.of("person 40; person 21; person 61");
        c.due("sum(0)", x.sum(0), 0);
        c.due("sum(0b101)", x.sum(0b101), 101);
        c.due("sum(0b111)", x.sum(0b111), 122);
        c.refused("sum(0b1000)", made("person 40; person 21; person 61"), y -> y.sum(0b1000), -2);
        c.refused("sum(-1)", made("person 40; person 21; person 61"), y -> y.sum(-1), -2);
        c.refused("sum(1) of nobody", made(""), y -> y.sum(1), -2);
        c.due("sum(1023)", Checks.of(TEN).sum(1023), 424);
    }

    private static void reached() {
        c.promise(54);
        AnsweredByTheDrowned x = Checks.of("person 5; person 5; person 2");
        int[] due = {1, 1, 2, 2, 2, 3, 3, 4, 4, 4, 5, 5, 6, 6};
        for (int n = 0; n < due.length; n++) {
            c.due("reached(" + n + ")", x.reached(n), due[n]);
        }
        AnsweredByTheDrowned y = Checks.of(TEN);
        c.due("reached(127)", y.reached(127), 128);
        c.due("reached(999)", y.reached(999), 425);
        c.due("reached(0) again", y.reached(0), 1);
        c.due("reached(999) of nobody", Checks.of("").reached(999), 1);
        AnsweredByTheDrowned old = Checks.of(("person 99;".repeat(10) + "still"));
        c.due("reached(989) of ten times 99", old.reached(989), 10);
        c.due("reached(990) of ten times 99", old.reached(990), 11);
        c.due("reached(999) of ten times 99", old.reached(999), 11);
        c.refused("reached(1000)", made(TEN), z -> z.reached(1000), -2);
        c.refused("reached(-1)", made(TEN), z -> z.reached(-1), -2);
    }

    private static void halves() {
        c.promise(55);
        c.due("nobody", Checks.of("").halves(), 0);
        c.due("one", Checks.of("person 99").halves(), 0);
        c.due("two", Checks.of("person 1; person 5").halves(), 0b01);
        c.due("the half itself", Checks.of("person 3; person 1; person 1; person 2; person 2; person 1").halves(), 0b000111);
        c.due("above the half", Checks.of("person 2; person 7; person 4").halves(), 0b010);
    }

    private static void ranked() {
        c.promise(56);
        AnsweredByTheDrowned x = Checks.of("person 30; person 10; person 30; person 9; person 10");
        int[] due = {3, 1, 4, 0, 2};
        for (int i = 0; i < due.length; i++) {
            c.due("ranked(" + i + ")", x.ranked(i), due[i]);
        }
        c.refused("ranked(1)", made("person 5"), y -> y.ranked(1), -2);
        c.refused("ranked(-1)", made("person 5"), y -> y.ranked(-1), -2);
        c.refused("ranked(0) of nobody", made(""), y -> y.ranked(0), -2);
    }

    private static void oldest() {
        c.promise(57);
        c.due("of several the first", Checks.of("person 30; person 41; person 41; person 9").oldest(), 1);
        c.due("the last", Checks.of("person 30; person 41; person 42").oldest(), 2);
        c.due("one", Checks.of("person 1").oldest(), 0);
        c.refused("oldest() of nobody", made(""), y -> y.oldest(), -5);
    }
}
