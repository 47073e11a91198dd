import java.util.ArrayList;
import java.util.List;
import java.util.function.Supplier;
import java.util.function.ToLongFunction;

/** Counts the answers that are not as due; a test's main ends with finish(). */
final class Checks {
    private int wrong;
    private int promise;

    void promise(int number) {
        promise = number;
    }

    void due(String call, long got, long want) {
        if (got != want) {
            wrong++;
            System.out.println("promise " + promise + ": " + call + " answered " + got + ", due is " + want);
        }
    }

    void due(String call, String got, String want) {
        if (!got.equals(want)) {
            wrong++;
            System.out.println("promise " + promise + ": " + call + " is " + got + ", due is " + want);
        }
    }

    /** The call is answered so, and nothing but the count of that refusal is other than without the call. */
    void refused(String call, Supplier<AnsweredByTheDrowned> made, ToLongFunction<AnsweredByTheDrowned> asked, int want) {
        refused(call, made, asked, want, want);
    }

    void refused(String call, Supplier<AnsweredByTheDrowned> made, ToLongFunction<AnsweredByTheDrowned> asked,
            int want, int counted) {
        AnsweredByTheDrowned refusing = made.get();
        AnsweredByTheDrowned untouched = made.get();
        due(call, asked.applyAsLong(refusing), want);
        for (int refusal = -2; refusal >= -6; refusal--) {
            int more = refusal == counted ? 1 : 0;
            due(call + ", refusals " + refusal, refusing.status(10 - refusal), untouched.status(10 - refusal) + more);
        }
        due("the state after " + call, stateOf(refusing), stateOf(untouched));
    }

    /** What can be asked of an object, THE TAPE read last. */
    static String stateOf(AnsweredByTheDrowned x) {
        List<Long> state = new ArrayList<>();
        for (int what = 0; what <= 10; what++) {
            state.add((long) x.status(what));
        }
        for (int law = 0; law < x.status(0); law++) {
            state.add((long) x.lawOf(law, 0));
            state.add((long) x.lawOf(law, 1));
        }
        for (int t = 0; t < x.status(4); t++) {
            state.add((long) x.step(t));
        }
        for (int person = 0; person < x.status(6); person++) {
            state.add((long) x.age(person));
        }
        for (int s = 0; s < 8; s++) {
            int held = x.holds(s);
            state.add((long) held);
            for (int i = 0; held >= 0 && held < 10 && i < 12; i++) {
                state.add(x.element(s, i));
            }
        }
        state.add((long) x.lake());
        return state.toString();
    }

    /** A new object that has read the text as a LAKE (none, if it is empty). */
    static AnsweredByTheDrowned of(String text) {
        AnsweredByTheDrowned x = new AnsweredByTheDrowned();
        if (!text.isEmpty() && read(x, text) < 0) {
            throw new IllegalStateException("no lake: " + text);
        }
        return x;
    }

    static int read(AnsweredByTheDrowned x, String text) {
        for (int i = 0; i < text.length(); i++) {
            x.feed(text.charAt(i));
        }
        return x.lake();
    }

    /** Shelf s holds a ROW of ints with these elements. */
    static void put(AnsweredByTheDrowned x, int s, long... elements) {
        x.row(s, 2, elements.length);
        for (int i = 0; i < elements.length; i++) {
            x.set(s, i, elements[i]);
        }
    }

    /** Bit i: the answer for i is 1. */
    static long bits(int n, java.util.function.IntUnaryOperator answer) {
        long bits = 0;
        for (int i = 0; i < n; i++) {
            bits |= (long) answer.applyAsInt(i) << i;
        }
        return bits;
    }

    void finish() {
        System.out.println(wrong == 0 ? "all answers are as due" : wrong + " answers are not as due");
        if (wrong != 0) {
            System.exit(1);
        }
    }
}
