import java.io.File;
import java.io.IOException;
import java.lang.reflect.Method;
import java.lang.reflect.Modifier;
import java.nio.file.Files;
import java.nio.file.Path;
import java.util.ArrayList;
import java.util.List;
import java.util.Set;
import java.util.TreeSet;
import java.util.regex.Matcher;
import java.util.regex.Pattern;

/** What README.md says: its examples are run as they stand there, and what it names lies in the project. */
public final class ReadmeTest {
    private static final Checks C = new Checks();
    private static final Pattern ANSWERED = Pattern.compile("(arm\\.\\w+\\(.*\\));\\s+// ([\\w.-]+)(: .*)?");
    private static final Set<String> NO_TESTS = Set.of("LatticeArm");

    public static void main(String[] args) throws IOException, InterruptedException {
        String page = Files.readString(Path.of("README.md"));
        examples(page);
        methods(page);
        files(page);
        tests(page);
        C.end();
    }

    /** The Java examples, made into one program that fails if an answer is not the one behind it. */
    private static void examples(String page) throws IOException, InterruptedException {
        List<String> program = new ArrayList<>();
        program.add("public final class Example { public static void main(String[] a) { Checks checks = new Checks();");
        Matcher block = Pattern.compile("```java\\n(.*?)```", Pattern.DOTALL).matcher(page);
        int answers = 0;
        while (block.find()) {
            for (String line : block.group(1).split("\\n")) {
                Matcher answered = ANSWERED.matcher(line);
                if (answered.matches()) {
                    answers++;
                    program.add("checks.due(\"README.md, answer " + answers + "\", () -> " + answered.group(1) + ", \""
                            + answered.group(2) + "\");");
                } else {
                    C.due("an answer is understood: " + line, () -> line.contains("//"), false);
                    program.add(line);
                }
            }
        }
        program.add("checks.end(); } }");
        int found = answers;
        C.due("there are examples", () -> found > 0, true);
        runs(program);
    }

    private static void runs(List<String> program) throws IOException, InterruptedException {
        Path folder = Files.createTempDirectory("readme");
        Path source = folder.resolve("Example.java");
        String known = System.getProperty("java.class.path");
        Files.write(source, program);
        int compiled = exitOf("javac", "-cp", known, "-d", folder.toString(), source.toString());
        C.due("the examples compile, exit code", () -> compiled, 0);
        int passed = compiled == 0 ? exitOf("java", "-cp", known + File.pathSeparator + folder, "Example") : 1;
        C.due("the examples answer as told, exit code", () -> passed, 0);
        for (File file : folder.toFile().listFiles()) {
            Files.delete(file.toPath());
        }
        Files.delete(folder);
    }

    private static int exitOf(String... command) throws IOException, InterruptedException {
        return new ProcessBuilder(command).inheritIO().start().waitFor();
    }

    private static void methods(String page) {
        String list = page.substring(page.indexOf("### All methods"), page.indexOf("## How to run its tests"));
        Set<String> face = new TreeSet<>();
        for (Method method : LatticeArm.class.getDeclaredMethods()) {
            if (Modifier.isPublic(method.getModifiers())) {
                face.add(method.getName());
            }
        }
        C.due("the methods that are listed", () -> quoted(list, "\\w+"), face);
    }

    private static void files(String page) {
        for (String path : quoted(page, "[\\w./-]+/[\\w./-]*\\w")) {
            if (!path.startsWith("/tmp/")) {
                C.due(path + " is there", () -> Files.exists(Path.of(path)), true);
            }
        }
    }

    private static void tests(String page) {
        Set<String> there = new TreeSet<>();
        for (String name : new File("src/test/java").list((folder, file) -> file.endsWith(".java"))) {
            there.add(name.replaceAll("\\.java$", ""));
        }
        Set<String> told = quoted(page, "[A-Z]\\w+");
        told.removeAll(NO_TESTS);
        C.due("the files of the tests that are told", () -> told, there);
    }

    /** What stands between backquotes and is of a kind. */
    private static Set<String> quoted(String text, String kind) {
        Set<String> found = new TreeSet<>();
        Matcher quote = Pattern.compile("`(" + kind + ")`").matcher(text);
        while (quote.find()) {
            found.add(quote.group(1));
        }
        return found;
    }
}
