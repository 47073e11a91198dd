import java.lang.reflect.Method;
import java.util.HashSet;
import java.util.Set;

/** Each promise of the document, 1 to 70, has tests of its own, named after it. */
public final class PromiseTests {
    private static final Class<?>[] ALL = {ShelfTests.class, LakeTests.class, HeardTests.class, LawTests.class,
        ToldTests.class, SoughtTests.class, PeopleTests.class, TruthTests.class, KeptTests.class,
        MidstTests.class, LongTests.class};
    private static final int LAST = 70;

    public static void main(String[] args) {
        int[] tests = new int[LAST + 1];
        Set<String> names = new HashSet<>();
        int wrong = 0;
        for (Class<?> one : ALL) {
            for (Method method : one.getDeclaredMethods()) {
                boolean named = method.getName().startsWith("promise");
                int promise = Checks.isTest(method) ? Integer.parseInt(method.getName().substring(7, 9)) : 0;
                if (named && (promise < 1 || promise > LAST || !names.add(method.getName()))) {
                    System.out.println(method + " is no test that is run, or its name is another's, too");
                    wrong++;
                } else {
                    tests[promise]++;
                }
            }
        }
        for (int promise = 1; promise <= LAST; promise++) {
            if (tests[promise] == 0) {
                System.out.println("promise " + promise + " has no test");
                wrong++;
            }
        }
        System.out.println(names.size() + " tests, " + wrong + " things wrong");
        if (wrong != 0) {
            System.exit(1);
        }
    }
}
