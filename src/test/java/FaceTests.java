import java.io.IOException;
import java.lang.reflect.Constructor;
import java.lang.reflect.Field;
import java.lang.reflect.Method;
import java.lang.reflect.Modifier;
import java.nio.file.Files;
import java.nio.file.Path;
import java.util.ArrayList;
import java.util.List;
import java.util.Set;
import java.util.TreeSet;
import java.util.regex.Matcher;
import java.util.regex.Pattern;

/** The public face, and those rules of LANGUAGE.md that can be seen from outside; the class's file is the argument. */
public final class FaceTests {
    private static final String FACE = "row(int,int,int) set(int,int,long) copy(int,int,int,int,int) holds(int)"
            + " show(int,int) says(int,int) law(int,int) use(int) ask(int,int) person(int) feed(int) wipe() lake()"
            + " lawOf(int,int) age(int) step(int) strikes(int) strikesBy(int,int) heard(int,int) all(int) silent(int)"
            + " run(int) loop(int) period() mirror() lastStroke() shift(int) flip() until(int) sameAs(int)"
            + " apart(int,int) parts(int,int,int) common(int) alone(int) busiest() lawFor(int,int) depths(int)"
            + " differs(int) together() odds() expected() fits(int) next(int,int) loudest(int,int) plan(int,int)"
            + " fill(int,int) round() day(int,int,int,int) tolls(int,int) meet(int,int) sum(int) reached(int) halves()"
            + " ranked(int) oldest() judge(int,int) answers(int,int,int) rings(int,int) ring(boolean) days(int) turn()"
            + " change(int) cut(int) still() seed(int) image() back() status(int)";

    private static final String BARRED = "throw throws try catch synchronized assert import package native instanceof"
            + " volatile transient strictfp super protected System Thread Object Class double float char";

    private static final String LIBRARY = "Math.max Math.min Math.abs Integer.bitCount Long.bitCount";

    private static int wrong;

    private static void due(String what, Object got, Object want) {
        if (!got.equals(want)) {
            wrong++;
            System.out.println(what + " is " + got + ", due is " + want);
        }
    }

    public static void main(String[] args) throws IOException {
        face();
        membersInside();
        if (args.length > 0) {
            source(Files.readString(Path.of(args[0])));
        }
        System.out.println(wrong == 0 ? "the face is as due" : wrong + " things are not as due");
        if (wrong != 0) {
            System.exit(1);
        }
    }

    private static String signature(Method method) {
        List<String> types = new ArrayList<>();
        for (Class<?> type : method.getParameterTypes()) {
            types.add(type.getSimpleName());
        }
        return method.getName() + "(" + String.join(",", types) + ")";
    }

    private static void face() {
        Class<?> face = AnsweredByTheDrowned.class;
        due("the class's modifiers", Modifier.toString(face.getModifiers()), "public final");
        due("its constructors", face.getDeclaredConstructors().length, 1);
        for (Constructor<?> constructor : face.getDeclaredConstructors()) {
            due("the constructor", constructor.toString(), "public AnsweredByTheDrowned()");
        }
        Set<String> methods = new TreeSet<>();
        for (Method method : face.getDeclaredMethods()) {
            if (Modifier.isPrivate(method.getModifiers())) {
                continue;
            }
            methods.add(signature(method));
            due("modifiers of " + method, Modifier.toString(method.getModifiers()), "public");
            due("answer of " + method, method.getReturnType(), method.getName().equals("element") ? long.class : int.class);
        }
        Set<String> due = new TreeSet<>(List.of(FACE.split(" ")));
        due.add("element(int,int)");
        due("the public methods", methods, due);
        Set<String> fields = new TreeSet<>();
        for (Field field : face.getDeclaredFields()) {
            if (!Modifier.isPrivate(field.getModifiers())) {
                fields.add(field.toString());
            }
        }
        due("the constants", fields, Set.of("public static final int AnsweredByTheDrowned.NONE"));
    }

    private static void membersInside() {
        Set<String> publicNames = new TreeSet<>();
        for (Method method : AnsweredByTheDrowned.class.getMethods()) {
            publicNames.add(method.getName());
        }
        List<Class<?>> all = new ArrayList<>(List.of(AnsweredByTheDrowned.class.getDeclaredClasses()));
        due("few classes", all.size() < 12, true);
        for (Class<?> one : all) {
            due(one + " is static", Modifier.isStatic(one.getModifiers()), true);
        }
        all.add(AnsweredByTheDrowned.class);
        for (Class<?> one : all) {
            int fields = 0;
            for (Field field : one.getDeclaredFields()) {
                boolean fixed = Modifier.isStatic(field.getModifiers());
                fields += fixed ? 0 : 1;
                due(field + " is no state of all objects", !fixed || Modifier.isFinal(field.getModifiers()), true);
            }
            due(one + " has few fields", fields <= 20, true);
            for (Method method : one.getDeclaredMethods()) {
                boolean own = one != AnsweredByTheDrowned.class || Modifier.isPrivate(method.getModifiers());
                due(method + " bears a public name", own && publicNames.contains(method.getName()), false);
                due(method + " has few parameters", method.getParameterCount() <= 7, true);
            }
        }
    }

    private static void source(String text) {
        String code = Pattern.compile("/\\*.*?\\*/|//[^\n]*", Pattern.DOTALL).matcher(text).replaceAll("");
        String bare = code.replaceAll("\"[^\"\n]*\"", "\"\"").replaceAll("'[^'\n]'", "0");
        Matcher words = Pattern.compile("[A-Za-z]+").matcher(bare);
        Set<String> barred = Set.of(BARRED.split(" "));
        while (words.find()) {
            due("the word " + words.group() + " in the class's file", barred.contains(words.group()), false);
        }
        for (String sign : List.of("->", "::", "@", "\"\" +", "+ \"\"")) {
            due(sign + " in the class's file", bare.contains(sign), false);
        }
        Matcher library = Pattern.compile("\\b(Math|Integer|Long|String|StringBuilder|Arrays)\\.\\w+").matcher(bare);
        while (library.find()) {
            due("whether it may use " + library.group(), Set.of(LIBRARY.split(" ")).contains(library.group()), true);
        }
        for (String line : bare.split("\n")) {
            // what is made is made with the object: so no run of calls needs more room than another
            boolean made = line.contains("new ");
            due("whether a call makes anything: " + line, made && !line.matches(" +private final .* = new .*;"), false);
        }
        due("signs beyond 127 in the class's file", text.chars().anyMatch(sign -> sign > 127), false);
        String[] lines = text.split("\n");
        int begun = 0;
        for (int i = 0; i < lines.length; i++) {
            if (lines[i].matches(" {4,8}[a-z].*\\) \\{")) {
                begun = i;
            }
            if (lines[i].matches(" {4,8}\\}") && i - begun > 60) {
                due("length of the method in line " + (begun + 1), i - begun, 60);
            }
        }
    }
}
