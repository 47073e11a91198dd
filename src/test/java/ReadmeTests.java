import java.io.IOException;
import java.nio.charset.StandardCharsets;
import java.nio.file.Files;
import java.nio.file.Path;
import java.util.ArrayList;
import java.util.Comparator;
import java.util.List;
import java.util.Set;
import java.util.TreeSet;
import java.util.concurrent.TimeUnit;
import java.util.regex.Matcher;
import java.util.regex.Pattern;
import java.util.stream.Stream;

/**
 * README.md: what it shows compiles and answers as it says, the command that it names is there, and it tells of each
 * class of tests. Run from the project's folder.
 */
public final class ReadmeTests {
    private static final Pattern BLOCK = Pattern.compile("```(\\w+)\n(.*?)```", Pattern.DOTALL);
    private static final Pattern PROGRAM = Pattern.compile("public class (\\w+)");
    /** A call whose answer is told behind it. */
    private static final Pattern TOLD = Pattern.compile("(?m)^(x\\.\\w+\\(.*\\)); *// (-?\\d+): .*$");

    private static int wrong;

    public static void main(String[] args) throws IOException, InterruptedException {
        String readme = Files.readString(Path.of("README.md"));
        Path folder = Files.createTempDirectory("readme");
        try {
            Path main = Path.of(args.length > 0 ? args[0] : "src/main/java/AnsweredByTheDrowned.java");
            Files.copy(main, folder.resolve("AnsweredByTheDrowned.java"));
            snippets(blocks(readme, "java"), folder);
            programs(readme, folder);
        } finally {
            remove(folder);
        }
        tests(readme);
        System.out.println(wrong == 0 ? "all is as README.md says" : wrong + " things are not as README.md says");
        if (wrong != 0) {
            System.exit(1);
        }
    }

    private static void due(String what, Object got, Object want) {
        if (!got.equals(want)) {
            wrong++;
            System.out.println(what + " is " + got + ", due is " + want);
        }
    }

    private static List<String> blocks(String readme, String kind) {
        List<String> blocks = new ArrayList<>();
        Matcher matcher = BLOCK.matcher(readme);
        while (matcher.find()) {
            if (matcher.group(1).equals(kind)) {
                blocks.add(matcher.group(2));
            }
        }
        return blocks;
    }

    /** The use it shows: each block becomes a method that prints the calls that answer otherwise than is told. */
    private static void snippets(List<String> blocks, Path folder) throws IOException, InterruptedException {
        StringBuilder methods = new StringBuilder();
        StringBuilder calls = new StringBuilder();
        int told = 0;
        for (String block : blocks) {
            Matcher matcher = TOLD.matcher(block);
            if (!PROGRAM.matcher(block).find()) {
                due("calls with their answers in\n" + block, matcher.find(), true);
                calls.append("use").append(told).append("();\n");
                methods.append("static void use").append(told).append("() {\n")
                        .append(matcher.replaceAll("due(\"$1\", $1, $2);")).append("}\n");
                told++;
            }
        }
        due("how many blocks show the use", told > 0, true);
        Files.writeString(folder.resolve("Uses.java"), "public class Uses {\n"
                + "static void due(String call, long got, long want) {\n"
                + "if (got != want) { System.out.println(call + \" answered \" + got); }\n}\n"
                + methods + "public static void main(String[] args) {\n" + calls + "}\n}\n");
        due("what the uses answer otherwise",
                said("javac --release 17 AnsweredByTheDrowned.java Uses.java && java Uses", folder), "");
    }

    /** The programs it shows, compiled and run by the commands it names, say what it tells. */
    private static void programs(String readme, Path folder) throws IOException, InterruptedException {
        int programs = 0;
        for (String block : blocks(readme, "java")) {
            Matcher matcher = PROGRAM.matcher(block);
            if (matcher.find()) {
                Files.writeString(folder.resolve(matcher.group(1) + ".java"), block);
                programs++;
            }
        }
        due("how many programs are shown", programs > 0, true);
        due("what they say", said(String.join("", blocks(readme, "sh")), folder),
                String.join("", blocks(readme, "text")).strip());
    }

    private static String said(String commands, Path folder) throws IOException, InterruptedException {
        Process shell = new ProcessBuilder("sh", "-ec", commands).directory(folder.toFile())
                .redirectError(ProcessBuilder.Redirect.INHERIT).start();
        shell.getOutputStream().close();
        String said = new String(shell.getInputStream().readAllBytes(), StandardCharsets.UTF_8);
        due("whether it ends in time: " + commands, shell.waitFor(60, TimeUnit.SECONDS), true);
        due("how it ends: " + commands, shell.exitValue(), 0);
        return said.strip();
    }

    private static void remove(Path folder) throws IOException {
        List<Path> files;
        try (Stream<Path> all = Files.walk(folder)) {
            files = all.sorted(Comparator.reverseOrder()).toList();
        }
        for (Path file : files) {
            Files.delete(file);
        }
    }

    private static void tests(String readme) throws IOException {
        String told = readme.substring(readme.indexOf("## Tests"));
        due("whether the command is named", told.contains("`.ci/run`"), true);
        due("whether it can be run", Files.isExecutable(Path.of(".ci/run")), true);
        Set<String> named = new TreeSet<>();
        Matcher matcher = Pattern.compile("`(\\w+Tests)`").matcher(told);
        while (matcher.find()) {
            named.add(matcher.group(1));
        }
        Set<String> there = new TreeSet<>();
        try (Stream<Path> files = Files.list(Path.of("src/test/java"))) {
            files.map(file -> file.getFileName().toString()).filter(name -> name.endsWith("Tests.java"))
                    .forEach(name -> there.add(name.substring(0, name.indexOf('.'))));
        }
        due("the classes of tests it tells of", named, there);
    }
}
