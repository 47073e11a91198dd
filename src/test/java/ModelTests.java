import java.lang.reflect.InvocationTargetException;
import java.lang.reflect.Method;
import java.lang.reflect.Modifier;
import java.util.ArrayList;
import java.util.Arrays;
import java.util.Comparator;
import java.util.List;
import java.util.Random;

/** All promises: runs of calls by chance, always the same ones, answered by the class as by the model. */
public final class ModelTests {
    private static final int RUNS = 1500;
    private static final int CALLS = 512;

    private final Random chance;
    private final AnsweredByTheDrowned x = new AnsweredByTheDrowned();
    private final Model model = new Model();
    private final List<String> told = new ArrayList<>();
    private int left = CALLS;

    private ModelTests(long seed) {
        chance = new Random(seed);
    }

    public static void main(String[] args) throws Exception {
        List<Method> methods = new ArrayList<>();
        for (Method method : AnsweredByTheDrowned.class.getDeclaredMethods()) {
            if (Modifier.isPublic(method.getModifiers())) {
                methods.add(method);
            }
        }
        // reflection tells them in any order
        methods.sort(Comparator.comparing(Method::getName));
        if (methods.size() != 69) {
            System.out.println(methods.size() + " methods, due are 69");
            System.exit(1);
        }
        for (long seed = 0; seed < RUNS; seed++) {
            if (!new ModelTests(seed).run(methods)) {
                System.exit(1);
            }
        }
        System.out.println("all answers are as the model's");
    }

    private boolean run(List<Method> methods) throws Exception {
        if (chance.nextInt(8) > 0 && !read(lake(6, false))) {
            return false;
        }
        // some runs keep their lake, others are for ever emptied and filled
        boolean calm = chance.nextBoolean();
        while (left > 0) {
            Method method = methods.get(chance.nextInt(methods.size()));
            String name = method.getName();
            if (calm && List.of("still", "cut", "rings", "back", "row").contains(name) && chance.nextInt(5) > 0) {
                continue;
            }
            // the dear ones of the model's less often
            if (List.of("parts", "lawFor", "fill", "plan", "loudest", "round").contains(name)
                    && chance.nextInt(4) > 0) {
                continue;
            }
            if (name.equals("lake") && left > 120 && chance.nextInt(3) > 0) {
                // by chance alone a lake seldom meets a ring without room, or with little
                if (chance.nextInt(4) == 0 && !(asked("days", 40) && asked("cut", chance.nextInt(4)))) {
                    return false;
                }
                if (!read(lake(4, true))) {
                    return false;
                }
                continue;
            }
            if (List.of("fits", "depths", "differs").contains(name) && left > 60 && !tellHeard()) {
                return false;
            }
            if (!asked(method, argumentsOf(method))) {
                return false;
            }
        }
        return true;
    }

    private boolean asked(Method method, Object... arguments) throws Exception {
        left--;
        Object got = method.invoke(x, arguments);
        Object want;
        try {
            want = Model.class.getMethod(method.getName(), method.getParameterTypes()).invoke(model, arguments);
        } catch (InvocationTargetException e) {
            if (!(e.getCause() instanceof Model.Refusal refusal)) {
                throw e;
            }
            model.count(refusal.why);
            want = refusal.why;
        }
        told.add(method.getName() + Arrays.toString(arguments) + " answered " + got);
        if (((Number) got).longValue() != ((Number) want).longValue()) {
            told.forEach(System.out::println);
            System.out.println("the last one's due is " + want);
            return false;
        }
        return true;
    }

    private boolean asked(String name, int... numbers) throws Exception {
        Class<?>[] types = new Class<?>[numbers.length];
        Arrays.fill(types, int.class);
        return asked(AnsweredByTheDrowned.class.getMethod(name, types), Arrays.stream(numbers).boxed().toArray());
    }

    /** Now and then what is told of what was heard is what is heard, or nearly. */
    private boolean tellHeard() throws Exception {
        if (chance.nextInt(3) == 0) {
            return true;
        }
        int s = chance.nextInt(8);
        int n = Math.min(40, model.status(4) + chance.nextInt(3));
        if (n > left - 8 || !asked("row", s, chance.nextInt(5), n)) {
            return false;
        }
        Method set = AnsweredByTheDrowned.class.getMethod("set", int.class, int.class, long.class);
        for (int t = 0; t < model.status(4); t++) {
            long heard = model.heard(t, 0);
            if ((heard != 0 || chance.nextInt(30) == 0) && !asked(set, s, t, heard + chance.nextInt(2))) {
                return false;
            }
        }
        return asked(List.of("fits", "depths", "differs").get(chance.nextInt(3)), s);
    }

    private boolean read(String text) throws Exception {
        for (int i = 0; i < text.length() && left > 1; i++) {
            if (!asked("feed", text.charAt(i))) {
                return false;
            }
        }
        return asked("lake");
    }

    private String lake(int most, boolean faulty) {
        List<String> statements = new ArrayList<>();
        for (int i = chance.nextInt(most) + 1; i > 0; i--) {
            statements.add(statement());
        }
        StringBuilder text = new StringBuilder(String.join(chance.nextBoolean() ? ";" : " ; ", statements));
        if (faulty && chance.nextBoolean()) {
            String odd = " ;;0912sgxlaw\t\u00e9{`:/@A";
            int at = chance.nextInt(text.length());
            char letter = odd.charAt(chance.nextInt(odd.length()));
            switch (chance.nextInt(4)) {
                case 0 -> text.setCharAt(at, letter);
                case 1 -> text.insert(at, letter);
                case 2 -> text.deleteCharAt(at);
                default -> text.setLength(at);
            }
        }
        return text.toString();
    }

    private String statement() {
        switch (chance.nextInt(12)) {
            case 0:
                return "use " + chance.nextInt(4);
            case 1:
                return "depth " + chance.nextInt(10);
            case 2:
                return "miss " + chance.nextInt(101);
            case 3:
            case 4:
                return "person " + (1 + chance.nextInt(chance.nextBoolean() ? 9 : 99));
            case 5:
            case 6:
            case 7:
                StringBuilder steps = new StringBuilder("ring ");
                for (int i = chance.nextInt(15); i >= 0; i--) {
                    steps.append(chance.nextInt(3) == 0 ? 's' : 'g');
                }
                return steps.toString();
            case 8:
                return chance.nextInt(3) == 0 ? "still" : "depth 00" + chance.nextInt(10);
            default:
                return "law " + chance.nextInt(6) + " " + chance.nextInt(chance.nextBoolean() ? 3 : 10);
        }
    }

    private Object[] argumentsOf(Method method) {
        int[] most = mostOf(method.getName());
        Object[] arguments = new Object[method.getParameterCount()];
        for (int i = 0; i < arguments.length; i++) {
            Class<?> type = method.getParameterTypes()[i];
            if (type == boolean.class) {
                arguments[i] = chance.nextInt(3) == 0;
            } else if (type == long.class) {
                arguments[i] = chance.nextInt(3) > 0 ? chance.nextInt(2) : chance.nextLong();
            } else {
                arguments[i] = number(most[i]);
            }
        }
        // few bits told by chance fit into few steps
        if (List.of("plan", "fill", "lawFor").contains(method.getName()) && chance.nextInt(20) > 0) {
            int n = 1 + chance.nextInt(chance.nextInt(4) == 0 ? 12 : 7);
            arguments[0] = n;
            arguments[1] = chance.nextInt(1 << n) & (chance.nextBoolean() ? -1 : chance.nextInt());
        }
        return arguments;
    }

    private int number(int most) {
        switch (chance.nextInt(40)) {
            case 0:
                return -1;
            case 1:
                return most + 1;
            case 2:
                return most;
            case 3:
                int[] far = {Integer.MIN_VALUE, Integer.MAX_VALUE, -2, 63, 64, 1 << 20};
                return far[chance.nextInt(far.length)];
            default:
                return chance.nextInt(most + 1);
        }
    }

    private static int[] mostOf(String name) {
        switch (name) {
            case "row":
                return new int[] {7, 4, 40};
            case "set":
            case "element":
                return new int[] {7, 39, 1};
            case "copy":
                return new int[] {7, 7, 20, 20, 20};
            case "holds":
            case "fits":
            case "depths":
            case "differs":
                return new int[] {7};
            case "show":
            case "says":
            case "law":
                return new int[] {name.equals("law") ? 5 : 7, name.equals("law") ? 9 : 5};
            case "ask":
                return new int[] {1, 100};
            case "person":
                return new int[] {99};
            case "feed":
                return new int[] {255};
            case "strikesBy":
                return new int[] {5, 39};
            case "heard":
                return new int[] {39, 2};
            case "all":
            case "run":
                return new int[] {2};
            case "loop":
                return new int[] {60};
            case "use":
            case "sameAs":
            case "alone":
                return new int[] {5};
            case "lawOf":
                return new int[] {5, 1};
            case "apart":
            case "parts":
                return new int[] {5, 5, 1};
            case "common":
                return new int[] {63};
            case "next":
                return new int[] {63, 1};
            case "loudest":
            case "plan":
            case "fill":
            case "lawFor":
                return new int[] {12, 12};
            case "day":
                return new int[] {12, 11, 12, 11};
            case "tolls":
                return new int[] {300, 1};
            case "meet":
                return new int[] {99, 99};
            case "sum":
                return new int[] {1023};
            case "reached":
                return new int[] {999};
            case "ranked":
            case "age":
                return new int[] {9};
            case "judge":
            case "rings":
                return new int[] {7, 20};
            case "answers":
                return new int[] {7, 20, 2};
            case "days":
            case "cut":
                return new int[] {10};
            case "status":
                return new int[] {16};
            default:
                return new int[] {39};
        }
    }
}
