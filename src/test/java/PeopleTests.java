import java.util.function.Supplier;

/** Promises 50 to 57: days by remainders, and for whom it tolls. */
public final class PeopleTests {
    private static final Checks c = new Checks();
    private static final int MIN = Integer.MIN_VALUE;
    private static final int MAX = Integer.MAX_VALUE;
    private static final Supplier<AnsweredByTheDrowned> NEW = AnsweredByTheDrowned::new;

    private static final String TEN = "person 1; person 2; person 4; person 8; person 16;"
            + "person 32; person 64; person 99; person 99; person 99";
    private static final String TEN_OF_99 = "person 99" + ";person 99".repeat(9);

    public static void main(String[] args) {
        c.run(PeopleTests.class);
    }

    private static Supplier<AnsweredByTheDrowned> made(String text) {
        return Checks.made(text);
    }

    // ---- 50: day

    private static void dayIs(int m, int r, int n, int q, int day) {
        c.asks("day(" + m + ", " + r + ", " + n + ", " + q + ")", Checks::some, x -> x.day(m, r, n, q), day);
    }

    private static void promise50LeastDay() {
        dayIs(5, 3, 7, 2, 23);
        dayIs(4, 1, 6, 5, 5);
        dayIs(7, 6, 7, 6, 6);
        dayIs(10, 0, 4, 2, 10);
    }

    private static void promise50SmallestAndLargest() {
        dayIs(1, 0, 1, 0, 0);
        dayIs(99, 0, 99, 0, 0);
        dayIs(99, 98, 1, 0, 98);
        dayIs(1, 0, 99, 98, 98);
        // one less than 99 times 98 is 98 by 99 over, and 97 by 98
        dayIs(99, 98, 98, 97, 9701);
    }

    private static void promise50NoneIsNotRefused() {
        dayIs(4, 1, 6, 2, -1);
        dayIs(99, 0, 99, 1, -1);
        dayIs(2, 0, 2, 1, -1);
    }

    private static void promise50Bad() {
        int[][] bad = {{0, 0, 1, 0}, {-5, 0, 1, 0}, {100, 0, 1, 0}, {MIN, 0, 1, 0}, {MAX, 0, 1, 0}, {1, 0, 0, 0},
            {1, 0, -5, 0}, {1, 0, 100, 0}, {1, 0, MIN, 0}, {1, 0, MAX, 0}};
        for (int[] one : bad) {
            dayIsBad(one[0], one[1], one[2], one[3]);
        }
    }

    private static void promise50BadRemainders() {
        int[][] bad = {{5, 5, 1, 0}, {5, -1, 1, 0}, {1, 1, 1, 0}, {99, 99, 1, 0}, {5, MIN, 1, 0}, {5, MAX, 1, 0},
            {1, 0, 5, 5}, {1, 0, 5, -1}, {1, 0, 1, 1}, {1, 0, 99, 99}, {1, 0, 5, MIN}, {1, 0, 5, MAX}};
        for (int[] one : bad) {
            dayIsBad(one[0], one[1], one[2], one[3]);
        }
    }

    private static void dayIsBad(int m, int r, int n, int q) {
        c.refused("day(" + m + ", " + r + ", " + n + ", " + q + ")", Checks::some, x -> x.day(m, r, n, q), -2);
    }

    // ---- 51: tolls

    private static void tollsOf(String text, int n, int sets, int least) {
        c.asks("tolls(" + n + ", 0) of " + text, made(text), x -> x.tolls(n, 0), sets);
        c.asks("tolls(" + n + ", 1) of " + text, made(text), x -> x.tolls(n, 1), least);
    }

    private static void promise51HowManyAndFewest() {
        String four = "person 40; person 21; person 61; person 7";
        tollsOf(four, 61, 2, 0b0100);
        tollsOf(four, 68, 2, 0b1100);
        tollsOf(four, 129, 1, 0b1111);
        tollsOf("person 10; person 20; person 10; person 20", 30, 4, 0b0011);
        tollsOf("person 1; person 2; person 3", 3, 2, 0b100);
    }

    private static void promise51SmallestAndLargest() {
        tollsOf(TEN, 0, 1, 0);
        tollsOf("", 0, 1, 0);
        tollsOf(TEN, 1, 1, 1);
        tollsOf(TEN, 424, 1, 1023);
        tollsOf(TEN_OF_99, 990, 1, 1023);
        tollsOf(TEN_OF_99, 99, 10, 1);
        tollsOf(TEN_OF_99, 495, 252, 31);
    }

    private static void promise51NoneIsNotRefused() {
        tollsOf("person 40; person 21", 5, 0, -1);
        tollsOf("", 1, 0, -1);
        tollsOf("", 999, 0, -1);
        tollsOf(TEN, 425, 0, -1);
        tollsOf(TEN_OF_99, 991, 0, -1);
        tollsOf(TEN_OF_99, 999, 0, -1);
    }

    private static void promise51Bad() {
        for (int n : new int[] {-1, 1000, MIN, MAX}) {
            c.refused("tolls(" + n + ", 0)", made(TEN), x -> x.tolls(n, 0), -2);
            c.refused("tolls(" + n + ", 1) of nobody", NEW, x -> x.tolls(n, 1), -2);
        }
        for (int what : new int[] {-1, 2, MIN, MAX}) {
            c.refused("tolls(0, " + what + ")", made(TEN), x -> x.tolls(0, what), -2);
        }
    }

    // ---- 52: meet

    private static void promise52LeastAboveZero() {
        int[][] due = {{1, 1, 1}, {4, 6, 12}, {7, 7, 7}, {50, 5, 50}, {1, 99, 99}, {99, 1, 99}, {99, 99, 99},
            {99, 98, 9702}, {98, 99, 9702}};
        for (int[] one : due) {
            c.asks("meet(" + one[0] + ", " + one[1] + ")", Checks::some, x -> x.meet(one[0], one[1]), one[2]);
        }
    }

    private static void promise52Bad() {
        int[][] bad = {{0, 1}, {1, 0}, {-1, 1}, {1, -1}, {100, 1}, {1, 100}, {0, 0}, {MIN, 1}, {1, MIN}, {MAX, 1}, {1, MAX}};
        for (int[] one : bad) {
            c.refused("meet(" + one[0] + ", " + one[1] + ")", Checks::some, x -> x.meet(one[0], one[1]), -2);
        }
    }

    // ---- 53: sum

    private static void promise53OfASet() {
        AnsweredByTheDrowned x = Checks.of("person 40; person 21; person 61");
        c.due("sum(0b100)", x.sum(0b100), 61);
        c.due("sum(0b101)", x.sum(0b101), 101);
        c.due("sum(0b111)", x.sum(0b111), 122);
    }

    private static void promise53NobodyAndAllTen() {
        c.asks("sum(0)", made(TEN), x -> x.sum(0), 0);
        c.asks("sum(0) of nobody", NEW, x -> x.sum(0), 0);
        c.asks("sum(1023)", made(TEN), x -> x.sum(1023), 424);
        c.asks("sum(512)", made(TEN), x -> x.sum(512), 99);
        c.asks("sum(1023) of the oldest", made(TEN_OF_99), x -> x.sum(1023), 990);
    }

    private static void promise53Bad() {
        for (int set : new int[] {-1, 0b100, 0b111, 1024, MIN, MAX}) {
            c.refused("sum(" + set + ") of two", Checks::some, x -> x.sum(set), -2);
        }
        c.refused("sum(1024) of ten", made(TEN), x -> x.sum(1024), -2);
        c.refused("sum(1) of nobody", NEW, x -> x.sum(1), -2);
    }

    // ---- 54: reached

    private static void promise54HowMany() {
        AnsweredByTheDrowned x = Checks.of("person 5; person 5; person 2");
        int[] due = {1, 1, 2, 2, 2, 3, 3, 4, 4, 4, 5, 5, 6, 6};
        for (int n = 0; n < due.length; n++) {
            c.due("reached(" + n + ")", x.reached(n), due[n]);
        }
    }

    private static void promise54SmallestAndLargest() {
        c.asks("reached(0)", made(TEN), x -> x.reached(0), 1);
        c.asks("reached(1)", made(TEN), x -> x.reached(1), 2);
        c.asks("reached(127)", made(TEN), x -> x.reached(127), 128);
        c.asks("reached(999)", made(TEN), x -> x.reached(999), 425);
        c.asks("reached(0) of nobody", NEW, x -> x.reached(0), 1);
        c.asks("reached(999) of nobody", NEW, x -> x.reached(999), 1);
        c.asks("reached(989) of the oldest", made(TEN_OF_99), x -> x.reached(989), 10);
        c.asks("reached(990) of the oldest", made(TEN_OF_99), x -> x.reached(990), 11);
        c.asks("reached(999) of the oldest", made(TEN_OF_99), x -> x.reached(999), 11);
    }

    private static void promise54AskedAgain() {
        AnsweredByTheDrowned x = Checks.of(TEN);
        c.due("reached(999)", x.reached(999), 425);
        c.due("reached(0) behind it", x.reached(0), 1);
        c.due("reached(999) again", x.reached(999), 425);
    }

    private static void promise54Bad() {
        for (int n : new int[] {-1, 1000, MIN, MAX}) {
            c.refused("reached(" + n + ")", made(TEN), x -> x.reached(n), -2);
            c.refused("reached(" + n + ") of nobody", NEW, x -> x.reached(n), -2);
        }
    }

    // ---- 55: halves

    private static void halvesOf(String text, int set) {
        c.asks("halves() of " + text, made(text), x -> x.halves(), set);
    }

    private static void promise55NearestToHalf() {
        halvesOf("person 3; person 1; person 1; person 2; person 2; person 1", 0b000111);
        halvesOf("person 2; person 7; person 4", 0b010);
        halvesOf("person 9; person 2; person 2", 0b001);
    }

    private static void promise55LeastOfSeveral() {
        halvesOf("person 1; person 5", 0b01);
        halvesOf("person 5; person 5", 0b01);
        // 3 of 7 with the first alone is as near as 4 with the second
        halvesOf("person 3; person 4", 0b01);
        halvesOf("person 4; person 3", 0b01);
    }

    private static void promise55NobodyOneAndTen() {
        halvesOf("", 0);
        halvesOf("person 99", 0);
        halvesOf("person 1", 0);
        halvesOf(TEN_OF_99, 0b11111);
        // half of 424 is 212: 1, 16, 32, 64 and a 99, or 2, 4, 8 and two 99, which are more as bits
        halvesOf(TEN, 0b0011110001);
    }

    // ---- 56: ranked

    private static void promise56LeastFirstThenByNumber() {
        AnsweredByTheDrowned x = Checks.of("person 30; person 10; person 30; person 9; person 10");
        int[] due = {3, 1, 4, 0, 2};
        for (int i = 0; i < due.length; i++) {
            c.due("ranked(" + i + ")", x.ranked(i), due[i]);
        }
    }

    private static void promise56OneAndTen() {
        c.asks("ranked(0) of one", made("person 5"), x -> x.ranked(0), 0);
        for (int i = 0; i < 10; i++) {
            int rank = i;
            c.asks("ranked(" + i + ") of ten alike", made(TEN_OF_99), x -> x.ranked(rank), i);
        }
        c.asks("ranked(9) of ten", Checks::full, x -> x.ranked(9), 9);
    }

    private static void promise56Bad() {
        for (int i : new int[] {-1, 2, MIN, MAX}) {
            c.refused("ranked(" + i + ") of two", Checks::some, x -> x.ranked(i), -2);
        }
        c.refused("ranked(10) of ten", Checks::full, x -> x.ranked(10), -2);
        c.refused("ranked(0) of nobody", NEW, x -> x.ranked(0), -2);
    }

    // ---- 57: oldest

    private static void promise57FirstOfSeveral() {
        c.asks("two alike", made("person 30; person 41; person 41; person 9"), x -> x.oldest(), 1);
        c.asks("the last", made("person 30; person 41; person 42"), x -> x.oldest(), 2);
        c.asks("the first", made("person 43; person 41; person 42"), x -> x.oldest(), 0);
        c.asks("one", made("person 1"), x -> x.oldest(), 0);
        c.asks("ten alike", made(TEN_OF_99), x -> x.oldest(), 0);
        c.asks("the tenth", Checks::full, x -> x.oldest(), 9);
    }

    private static void promise57StuckWithNobody() {
        c.refused("oldest() of nobody", made("law 0 0; ring s"), x -> x.oldest(), -5);
        c.refused("oldest() of a new object", NEW, x -> x.oldest(), -5);
    }
}
