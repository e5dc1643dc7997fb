import java.io.IOException;
import java.lang.reflect.Constructor;
import java.lang.reflect.Field;
import java.lang.reflect.Method;
import java.lang.reflect.Modifier;
import java.nio.file.Files;
import java.nio.file.Path;
import java.util.Arrays;
import java.util.Set;
import java.util.TreeSet;
import java.util.regex.Pattern;

/** The public face as the document lists it, and what of LANGUAGE.md can be seen without running the program. */
public final class FaceTest {
    private static final Checks C = new Checks();

    public static void main(String[] args) throws IOException {
        methods();
        members();
        classes();
        source();
        C.end();
    }

    private static void methods() throws IOException {
        Set<String> want = new TreeSet<>();
        boolean inFace = false;
        for (String line : Files.readAllLines(Path.of("../shared/DOC.md"))) {
            if (line.startsWith("public final class")) {
                inFace = true;
            } else if (line.equals("}")) {
                inFace = false;
            } else if (inFace && !line.contains("public LatticeArm()")) {
                want.add(line.strip().replaceAll(" (length|down|up|joint|x|y|what|index|isY|value|move|pose|moves|name"
                        + "|character)(?=[,)])", "").replace(", ", ",").replace(";", ""));
            }
        }
        Set<String> got = new TreeSet<>();
        for (Method method : LatticeArm.class.getDeclaredMethods()) {
            if (!Modifier.isPrivate(method.getModifiers())) {
                got.add(method.toGenericString().replace("LatticeArm.", "").replace("java.lang.", "")
                        .replace("java.util.", "").replace(", ", ","));
            }
        }
        C.due("the number of methods", want::size, 48);
        C.due("the methods", () -> got, want);
    }

    private static void members() {
        C.due("public and final", () -> Modifier.toString(LatticeArm.class.getModifiers()), "public final");
        Constructor<?>[] made = LatticeArm.class.getDeclaredConstructors();
        C.due("constructors", () -> Arrays.toString(made), "[public LatticeArm()]");
        for (Field field : LatticeArm.class.getDeclaredFields()) {
            C.due(field.getName() + " is private", () -> Modifier.isPrivate(field.getModifiers()), true);
            boolean isStatic = Modifier.isStatic(field.getModifiers());
            C.due(field.getName() + " is final if static",
                    () -> !isStatic || Modifier.isFinal(field.getModifiers()), true);
        }
        Set<String> face = new TreeSet<>();
        for (Method method : LatticeArm.class.getMethods()) {
            face.add(method.getName());
        }
        for (Class<?> inside : LatticeArm.class.getDeclaredClasses()) {
            for (Method method : inside.getDeclaredMethods()) {
                C.due(inside.getSimpleName() + "." + method.getName() + " has no name of the face",
                        () -> face.contains(method.getName()), false);
            }
        }
    }

    private static void classes() {
        Class<?>[] inside = LatticeArm.class.getDeclaredClasses();
        C.due("at most twelve classes", () -> inside.length <= 11, true);
        for (Class<?> one : inside) {
            C.due(one + " is static", () -> Modifier.isStatic(one.getModifiers()), true);
            C.due(one + " has few fields", () -> one.getDeclaredFields().length <= 20, true);
        }
    }

    private static void source() throws IOException {
        String text = Files.readString(Path.of("src/main/java/LatticeArm.java"));
        String[] forbidden = {"\\bcatch\\b", "\\btry\\b", "\\bfinally\\b", "->", "::", "\\bsynchronized\\b",
            "\\bassert\\b", "\\bpackage\\b", "\\bSystem\\.(?!arraycopy)", "Exact\\(", "\\bequals\\b", "\\bObject\\b",
            "\\bnew int\\[[a-z]", "[^\\x00-\\x7f]"};
        for (String sign : forbidden) {
            C.due("the source has " + sign, () -> Pattern.compile(sign).matcher(text).find(), false);
        }
    }
}
