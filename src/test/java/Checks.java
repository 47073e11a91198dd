import java.lang.reflect.InvocationTargetException;
import java.lang.reflect.Method;
import java.util.ArrayList;
import java.util.List;
import java.util.function.IntUnaryOperator;
import java.util.function.Supplier;
import java.util.function.ToLongFunction;

/** Runs the tests of a class, and counts the answers that are not as due. */
final class Checks {
    static final String FORTY = "ssssssssssggggggggggssssssssssgggggggggg";
    static final String SIX_LAWS = "law 0 0; law 1 1; law 2 2; law 3 3; law 4 4; law 5 5";
    static final String TEN_PEOPLE = "person 1; person 2; person 3; person 4; person 5;"
            + "person 6; person 7; person 8; person 9; person 10";

    private int wrong;
    private String test = "";

    /** A test is a method without arguments whose name begins with its promise: promise07.., for one. */
    static boolean isTest(Method method) {
        return method.getName().matches("promise\\d\\d[A-Z]\\w*") && method.getParameterCount() == 0;
    }

    /** Runs each test of the class, told apart by name; ends the program with 1 if an answer isn't as due. */
    void run(Class<?> tests) {
        int many = 0;
        for (Method method : tests.getDeclaredMethods()) {
            if (isTest(method)) {
                many++;
                test = method.getName();
                method.setAccessible(true);
                try {
                    method.invoke(null);
                } catch (InvocationTargetException | IllegalAccessException e) {
                    wrong++;
                    System.out.println(test + ": " + (e.getCause() == null ? e : e.getCause()));
                }
            }
        }
        System.out.println(many + " tests, " + wrong + " answers not as due");
        if (wrong != 0 || many == 0) {
            System.exit(1);
        }
    }

    void due(String call, long got, long want) {
        if (got != want) {
            wrong++;
            System.out.println(test + ": " + call + " answered " + got + ", due is " + want);
        }
    }

    void due(String call, String got, String want) {
        if (!got.equals(want)) {
            wrong++;
            System.out.println(test + ": " + call + " is " + got + ", due is " + want);
        }
    }

    /** The call is answered so, and nothing but the count of that refusal is other than without the call. */
    void refused(String call, Supplier<AnsweredByTheDrowned> made, ToLongFunction<AnsweredByTheDrowned> asked, int want) {
        refused(call, made, asked, want, want);
    }

    void refused(String call, Supplier<AnsweredByTheDrowned> made, ToLongFunction<AnsweredByTheDrowned> asked,
            int want, int counted) {
        AnsweredByTheDrowned refusing = made.get();
        AnsweredByTheDrowned untouched = made.get();
        due(call, asked.applyAsLong(refusing), want);
        for (int refusal = -2; refusal >= -6; refusal--) {
            int more = refusal == counted ? 1 : 0;
            due(call + ", refusals " + refusal, refusing.status(10 - refusal), untouched.status(10 - refusal) + more);
        }
        due("the state after " + call, stateOf(refusing), stateOf(untouched));
    }

    /** The call is answered so, no refusal is counted, and nothing is other than without the call. */
    void asks(String call, Supplier<AnsweredByTheDrowned> made, ToLongFunction<AnsweredByTheDrowned> asked, long want) {
        AnsweredByTheDrowned asking = made.get();
        AnsweredByTheDrowned untouched = made.get();
        due(call, asked.applyAsLong(asking), want);
        due("refusals of " + call, refusals(asking), refusals(untouched));
        due("the state after " + call, stateOf(asking), stateOf(untouched));
    }

    static int refusals(AnsweredByTheDrowned x) {
        int many = 0;
        for (int what = 12; what <= 16; what++) {
            many += x.status(what);
        }
        return many;
    }

    /** What can be asked of an object: as it stands, with its TAPE read as a LAKE, and as it was kept. */
    static String stateOf(AnsweredByTheDrowned x) {
        List<Long> state = new ArrayList<>();
        for (int s = 0; s < 8; s++) {
            for (int i = 0; x.holds(s) >= 0 && x.holds(s) < 10 && i < 40; i++) {
                state.add(x.element(s, i));
            }
        }
        tell(x, state);
        state.add((long) x.lake());
        tell(x, state);
        state.add((long) x.back());
        tell(x, state);
        return state.toString();
    }

    private static void tell(AnsweredByTheDrowned x, List<Long> state) {
        for (int what = 0; what <= 10; what++) {
            state.add((long) x.status(what));
        }
        for (int law = 0; law < x.status(0); law++) {
            state.add((long) x.lawOf(law, 0));
            state.add((long) x.lawOf(law, 1));
        }
        for (int t = 0; t < x.status(4); t++) {
            state.add((long) x.step(t));
        }
        for (int person = 0; person < x.status(6); person++) {
            state.add((long) x.age(person));
        }
        for (int s = 0; s < 8; s++) {
            state.add((long) x.holds(s));
        }
    }

    /** A new object that has read the text as a LAKE (none, if it is empty). */
    static AnsweredByTheDrowned of(String text) {
        AnsweredByTheDrowned x = new AnsweredByTheDrowned();
        if (!text.isEmpty() && read(x, text) < 0) {
            throw new IllegalStateException("no lake: " + text);
        }
        return x;
    }

    static Supplier<AnsweredByTheDrowned> made(String text) {
        return () -> of(text);
    }

    /** A bit of everything, with something else kept, and a LAKE on THE TAPE that isn't read yet. */
    static AnsweredByTheDrowned some() {
        AnsweredByTheDrowned x = of("law 5 0; person 70; ring gs; depth 3; miss 5");
        x.seed(-7);
        x.image();
        x.law(2, 1);
        x.law(4, 1);
        x.use(2);
        x.ask(0, 1);
        x.ask(1, 50);
        x.person(20);
        x.ring(true);
        x.ring(false);
        x.seed(99);
        put(x, 0, 1, 0, 1, 0, 5);
        x.row(1, 4, 0);
        x.show(2, 0);
        x.show(3, 2);
        feed(x, "law 0 0;still");
        return x;
    }

    /** Six LAWS, forty STEPS, ten PEOPLE, and on each SHELF something. */
    static AnsweredByTheDrowned full() {
        AnsweredByTheDrowned x = new AnsweredByTheDrowned();
        for (int law = 0; law < 6; law++) {
            x.law(law, 9 - law);
            x.show(law, law);
        }
        for (int age = 90; age < 100; age++) {
            x.person(age);
        }
        x.row(6, 3, 40);
        x.row(7, 4, 40);
        x.days(40);
        return x;
    }

    static void feed(AnsweredByTheDrowned x, String text) {
        for (int i = 0; i < text.length(); i++) {
            x.feed(text.charAt(i));
        }
    }

    static int read(AnsweredByTheDrowned x, String text) {
        feed(x, text);
        return x.lake();
    }

    /** Shelf s holds a ROW of ints with these elements. */
    static void put(AnsweredByTheDrowned x, int s, long... elements) {
        x.row(s, 2, elements.length);
        for (int i = 0; i < elements.length; i++) {
            x.set(s, i, elements[i]);
        }
    }

    /** A new object that has read the text, with a ROW of ints with these elements on SHELF 0. */
    static AnsweredByTheDrowned told(String text, long... elements) {
        AnsweredByTheDrowned x = of(text);
        put(x, 0, elements);
        return x;
    }

    /** Bit i: the answer for i is 1. */
    static long bits(int n, IntUnaryOperator answer) {
        long bits = 0;
        for (int i = 0; i < n; i++) {
            bits |= (long) answer.applyAsInt(i) << i;
        }
        return bits;
    }
}
