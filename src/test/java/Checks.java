import java.lang.reflect.InvocationTargetException;
import java.lang.reflect.Method;
import java.util.ArrayList;
import java.util.LinkedHashMap;
import java.util.LinkedHashSet;
import java.util.List;
import java.util.Map;
import java.util.Objects;
import java.util.Set;
import java.util.function.IntUnaryOperator;
import java.util.function.Supplier;
import java.util.function.ToLongFunction;

/** Runs the tests of a class, and counts the answers that are not as due. */
final class Checks {
    static final String FORTY = "ssssssssssggggggggggssssssssssgggggggggg";
    static final String SIX_LAWS = "law 0 0; law 1 1; law 2 2; law 3 3; law 4 4; law 5 5";
    static final String TEN_PEOPLE = "person 1; person 2; person 3; person 4; person 5;"
            + "person 6; person 7; person 8; person 9; person 10";

    private int wrong;
    private String test = "";

    /** A test is a method without arguments whose name begins with its promise: promise07.., for one. */
    static boolean isTest(Method method) {
        return method.getName().matches("promise\\d\\d[A-Z]\\w*") && method.getParameterCount() == 0;
    }

    /** Runs each test of the class, told apart by name; ends the program with 1 if an answer isn't as due. */
    void run(Class<?> tests) {
        int many = 0;
        for (Method method : tests.getDeclaredMethods()) {
            if (isTest(method)) {
                many++;
                test = method.getName();
                method.setAccessible(true);
                try {
                    method.invoke(null);
                } catch (InvocationTargetException | IllegalAccessException e) {
                    wrong++;
                    System.out.println(test + ": " + (e.getCause() == null ? e : e.getCause()));
                }
            }
        }
        System.out.println(many + " tests, " + wrong + " answers not as due");
        if (wrong != 0 || many == 0) {
            System.exit(1);
        }
    }

    void due(String call, long got, long want) {
        if (got != want) {
            wrong++;
            System.out.println(test + ": " + call + " answered " + got + ", due is " + want);
        }
    }

    void due(String call, String got, String want) {
        if (!got.equals(want)) {
            wrong++;
            System.out.println(test + ": " + call + " is " + got + ", due is " + want);
        }
    }

    /** The call is answered so, and nothing but the count of that refusal is other than without the call. */
    void refused(String call, Supplier<AnsweredByTheDrowned> made, ToLongFunction<AnsweredByTheDrowned> asked, int want) {
        refused(call, made, asked, want, want);
    }

    void refused(String call, Supplier<AnsweredByTheDrowned> made, ToLongFunction<AnsweredByTheDrowned> asked,
            int want, int counted) {
        int before = made.get().status(10 - counted);
        changes(call, made, asked, want, "refusals " + counted + " " + before + " -> " + (before + 1));
    }

    /** The call is answered so, no refusal is counted, and nothing is other than without the call. */
    void asks(String call, Supplier<AnsweredByTheDrowned> made, ToLongFunction<AnsweredByTheDrowned> asked, long want) {
        changes(call, made, asked, want, "");
    }

    /**
     * The call is answered so, and just what is listed becomes other than without it: "depth 2 -> 7", each change
     * behind a semicolon, in the order in which stateOf tells them.
     */
    void changes(String call, Supplier<AnsweredByTheDrowned> made, ToLongFunction<AnsweredByTheDrowned> asked,
            long want, String changed) {
        AnsweredByTheDrowned asking = made.get();
        AnsweredByTheDrowned untouched = made.get();
        due(call, asked.applyAsLong(asking), want);
        due("what becomes other by " + call, otherIn(stateOf(asking), stateOf(untouched)), changed);
    }

    /** Two objects are alike, whatever they went through. */
    void alike(String what, AnsweredByTheDrowned x, AnsweredByTheDrowned y) {
        due(what, otherIn(stateOf(x), stateOf(y)), "");
    }

    private static String otherIn(Map<String, Long> state, Map<String, Long> before) {
        Set<String> names = new LinkedHashSet<>(before.keySet());
        names.addAll(state.keySet());
        List<String> other = new ArrayList<>();
        for (String name : names) {
            if (!Objects.equals(state.get(name), before.get(name))) {
                other.add(name + " " + before.get(name) + " -> " + state.get(name));
            }
        }
        return String.join("; ", other);
    }

    static int refusals(AnsweredByTheDrowned x) {
        int many = 0;
        for (int what = 12; what <= 16; what++) {
            many += x.status(what);
        }
        return many;
    }

    /** All that an object has, by name: what can be asked of it, what its TAPE is as a LAKE, and what it has kept. */
    private static Map<String, Long> stateOf(AnsweredByTheDrowned x) {
        Map<String, Long> state = new LinkedHashMap<>();
        tellLake(x, "", state);
        state.put("tape", (long) x.status(8));
        for (int refusal = -2; refusal >= -6; refusal--) {
            state.put("refusals " + refusal, (long) x.status(10 - refusal));
        }
        for (int s = 0; s < 8; s++) {
            state.put("shelf " + s, (long) x.holds(s));
            for (int i = 0; i < 40; i++) {
                // what an element is already may be put in again: so it's seen how many there are
                long element = x.element(s, i);
                if (x.set(s, i, element) != 1) {
                    break;
                }
                state.put("element " + s + " " + i, element);
            }
        }
        state.put("read", (long) x.lake());
        if (x.back() == 1) {
            tellLake(x, "kept ", state);
        }
        return state;
    }

    private static void tellLake(AnsweredByTheDrowned x, String when, Map<String, Long> state) {
        String[] names = {"laws", "in force", "depth", "miss", "steps", "strokes", "people", "ages"};
        for (int what = 0; what < names.length; what++) {
            state.put(when + names[what], (long) x.status(what));
        }
        state.put(when + "seed", (long) x.status(9));
        for (int law = 0; law < x.status(0); law++) {
            state.put(when + "kind " + law, (long) x.lawOf(law, 0));
            state.put(when + "a " + law, (long) x.lawOf(law, 1));
        }
        for (int t = 0; t < x.status(4); t++) {
            state.put(when + "step " + t, (long) x.step(t));
        }
        for (int person = 0; person < x.status(6); person++) {
            state.put(when + "age " + person, (long) x.age(person));
        }
    }

    /** A new object that has read the text as a LAKE (none, if it is empty). */
    static AnsweredByTheDrowned of(String text) {
        AnsweredByTheDrowned x = new AnsweredByTheDrowned();
        if (!text.isEmpty() && read(x, text) < 0) {
            throw new IllegalStateException("no lake: " + text);
        }
        return x;
    }

    static Supplier<AnsweredByTheDrowned> made(String text) {
        return () -> of(text);
    }

    /** A bit of everything, with something else kept, and a LAKE on THE TAPE that isn't read yet. */
    static AnsweredByTheDrowned some() {
        AnsweredByTheDrowned x = of("law 5 0; person 70; ring gs; depth 3; miss 5");
        x.seed(-7);
        x.image();
        x.law(2, 1);
        x.law(4, 1);
        x.use(2);
        x.ask(0, 1);
        x.ask(1, 50);
        x.person(20);
        x.ring(true);
        x.ring(false);
        x.seed(99);
        put(x, 0, 1, 0, 1, 0, 5);
        x.row(1, 4, 0);
        x.show(2, 0);
        x.show(3, 2);
        feed(x, "law 0 0;still");
        return x;
    }

    /** Six LAWS, forty STEPS, ten PEOPLE, and on each SHELF something. */
    static AnsweredByTheDrowned full() {
        AnsweredByTheDrowned x = new AnsweredByTheDrowned();
        for (int law = 0; law < 6; law++) {
            x.law(law, 9 - law);
            x.show(law, law);
        }
        for (int age = 90; age < 100; age++) {
            x.person(age);
        }
        x.row(6, 3, 40);
        x.row(7, 4, 40);
        x.days(40);
        return x;
    }

    static void feed(AnsweredByTheDrowned x, String text) {
        for (int i = 0; i < text.length(); i++) {
            x.feed(text.charAt(i));
        }
    }

    static int read(AnsweredByTheDrowned x, String text) {
        feed(x, text);
        return x.lake();
    }

    /** Shelf s holds a ROW of ints with these elements. */
    static void put(AnsweredByTheDrowned x, int s, long... elements) {
        x.row(s, 2, elements.length);
        for (int i = 0; i < elements.length; i++) {
            x.set(s, i, elements[i]);
        }
    }

    /** A new object that has read the text, with a ROW of ints with these elements on SHELF 0. */
    static AnsweredByTheDrowned told(String text, long... elements) {
        AnsweredByTheDrowned x = of(text);
        put(x, 0, elements);
        return x;
    }

    /** Bit i: the answer for i is 1. */
    static long bits(int n, IntUnaryOperator answer) {
        long bits = 0;
        for (int i = 0; i < n; i++) {
            bits |= (long) answer.applyAsInt(i) << i;
        }
        return bits;
    }
}
