import java.io.IOException;
import java.lang.reflect.Constructor;
import java.lang.reflect.Field;
import java.lang.reflect.Method;
import java.lang.reflect.Modifier;
import java.nio.file.Files;
import java.nio.file.Path;
import java.util.Arrays;
import java.util.Set;
import java.util.TreeSet;
import java.util.regex.Matcher;
import java.util.regex.Pattern;

/** The public face as the document lists it, and those rules of LANGUAGE.md that are easily seen in the file. */
public final class FaceTest {
    private static final Checks C = new Checks();

    public static void main(String[] args) throws IOException {
        methods();
        members();
        classes();
        String text = Files.readString(Path.of("src/main/java/LatticeArm.java"));
        source(text);
        library(text);
        objects(text);
        lengths(text);
        C.end();
    }

    private static void methods() throws IOException {
        Set<String> want = new TreeSet<>();
        boolean inFace = false;
        for (String line : Files.readAllLines(Path.of("../shared/DOC.md"))) {
            if (line.startsWith("public final class")) {
                inFace = true;
            } else if (line.equals("}")) {
                inFace = false;
            } else if (inFace && !line.contains("public LatticeArm()")) {
                want.add(line.strip().replaceAll(" (length|down|up|joint|x|y|what|index|isY|value|move|pose|moves|name"
                        + "|character)(?=[,)])", "").replace(", ", ",").replace(";", ""));
            }
        }
        Set<String> got = new TreeSet<>();
        for (Method method : LatticeArm.class.getDeclaredMethods()) {
            if (!Modifier.isPrivate(method.getModifiers())) {
                got.add(method.toGenericString().replace("LatticeArm.", "").replace("java.lang.", "")
                        .replace("java.util.", "").replace(", ", ","));
            }
        }
        C.due("the number of methods", want::size, 48);
        C.due("the methods", () -> got, want);
    }

    private static void members() {
        C.due("public and final", () -> Modifier.toString(LatticeArm.class.getModifiers()), "public final");
        Constructor<?>[] made = LatticeArm.class.getDeclaredConstructors();
        C.due("constructors", () -> Arrays.toString(made), "[public LatticeArm()]");
        for (Field field : LatticeArm.class.getDeclaredFields()) {
            C.due(field.getName() + " is private", () -> Modifier.isPrivate(field.getModifiers()), true);
            boolean isStatic = Modifier.isStatic(field.getModifiers());
            C.due(field.getName() + " is final if static",
                    () -> !isStatic || Modifier.isFinal(field.getModifiers()), true);
        }
        Set<String> face = new TreeSet<>();
        for (Method method : LatticeArm.class.getMethods()) {
            face.add(method.getName());
        }
        for (Method method : LatticeArm.class.getDeclaredMethods()) {
            boolean isOwn = Modifier.isPrivate(method.getModifiers());
            C.due("private " + method.getName() + " has no name of the face",
                    () -> isOwn && face.contains(method.getName()), false);
        }
        for (Class<?> inside : LatticeArm.class.getDeclaredClasses()) {
            for (Method method : inside.getDeclaredMethods()) {
                C.due(inside.getSimpleName() + "." + method.getName() + " has no name of the face",
                        () -> face.contains(method.getName()), false);
            }
        }
    }

    private static void classes() {
        Class<?>[] inside = LatticeArm.class.getDeclaredClasses();
        C.due("at most twelve classes", () -> inside.length <= 11, true);
        small(LatticeArm.class);
        for (Class<?> one : inside) {
            C.due(one + " is static", () -> Modifier.isStatic(one.getModifiers()), true);
            small(one);
        }
    }

    private static void small(Class<?> one) {
        C.due(one + " has few fields", () -> Arrays.stream(one.getDeclaredFields())
                .filter(field -> !Modifier.isStatic(field.getModifiers())).count() <= 20, true);
        for (Method method : one.getDeclaredMethods()) {
            C.due(method + " has few parameters", () -> method.getParameterCount() <= 7, true);
        }
    }

    private static void source(String text) {
        String[] forbidden = {"\\bcatch\\b", "\\btry\\b", "\\bfinally\\b", "->", "::", "\\bsynchronized\\b",
            "\\bassert\\b", "\\bpackage\\b", "\\bSystem\\.(?!arraycopy)", "Exact\\(", "\\bequals\\b", "\\bObject\\b",
            "\\bnew int\\[[a-z]", "[^\\x00-\\x7f]"};
        for (String sign : forbidden) {
            C.due("the source has " + sign, () -> Pattern.compile(sign).matcher(text).find(), false);
        }
    }

    /** What is imported, called by the name of its class, or thrown, and is not allowed. */
    private static void library(String text) {
        C.due("wrongly imported", () -> wrong(text, "import (.*);", Set.of("java.util.Arrays",
                "java.util.NoSuchElementException")), Set.of());
        C.due("wrongly called", () -> wrong(text, "\\b([A-Z][a-z]+\\.[a-z]\\w*)\\(", Set.of("Arrays.fill", "Math.abs",
                "Math.floorDiv", "Math.floorMod", "Math.max", "Math.min", "System.arraycopy")), Set.of());
        C.due("wrongly thrown", () -> wrong(text, "\\bthrow (?:new (\\w+)\\(\"[^\"]+\"\\);|.*)", Set.of(
                "IllegalArgumentException", "IllegalStateException", "IndexOutOfBoundsException",
                "NoSuchElementException", "ArithmeticException", "UnsupportedOperationException")), Set.of());
    }

    /** A call makes nothing but exceptions: all else is made with the object. */
    private static void objects(String text) {
        String made = " +(private )?final [\\w\\[\\]]+ \\w+ = new .*| +past\\[i\\] = new Scene\\(\\);| +throw new .*";
        for (String line : text.split("\n")) {
            if (line.matches(".*\\bnew\\b.*")) {
                C.due("made with the object, or thrown: " + line.strip(), () -> line.matches(made), true);
            }
        }
    }

    private static void lengths(String text) {
        String head = "( {4}| {8})(?!return |throw |else )(?:\\w+ )*[\\w\\[\\]]+ (\\w+)\\([^;{]*\\{";
        Matcher method = Pattern.compile("(?ms)^" + head + "$.*?^\\1\\}$").matcher(text);
        int methods = 0;
        while (method.find()) {
            methods++;
            long lines = method.group().lines().count();
            C.due(method.group(2) + " has some sixty lines at the most", () -> lines <= 60, true);
        }
        int found = methods;
        C.due("methods are found", () -> found > 48, true);
    }

    private static Set<String> wrong(String text, String kind, Set<String> allowed) {
        Set<String> found = new TreeSet<>();
        Matcher matcher = Pattern.compile(kind).matcher(text);
        while (matcher.find()) {
            found.add(String.valueOf(matcher.group(1)));
        }
        found.removeAll(allowed);
        return found;
    }
}
