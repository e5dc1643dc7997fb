import java.lang.reflect.InvocationTargetException;
import java.lang.reflect.Method;
import java.lang.reflect.Modifier;
import java.util.ArrayList;
import java.util.Comparator;
import java.util.HashMap;
import java.util.List;
import java.util.Map;
import java.util.Random;

/** Runs of calls, the same ones each time, on the program and on the Model of the document: all 49 promises. */
public final class RandomRunsTest {
    private static final String[] TEXTS = {"L2(-1,1);", "O3,-4;", "O-0,-2;", "L1(-0,3);", "O10,-10;", "O0,0;", "L5(-",
        "O01", "L3(-2,2", "O1,1", ";", "-", "9", ",", "L", "O", "O-3,2;O-3,2;", "L4(-1,0);O2,2;", "O5,7;", " "};
    private static final String[] COMMON = {"addLink", "addLink", "addObstacle", "setValue", "move", "move", "read",
        "setLimits", "planToPose", "planToCell", "planSmooth", "planSmooth", "planNear", "planToName", "follow", "follow",
        "back", "pathMove", "pathMove", "append", "undo"};

    private final Random random;
    private final int most;
    private final LatticeArm arm = new LatticeArm();
    private final Model model = new Model();
    private final List<String> calls = new ArrayList<>();
    private static final Map<String, Integer> answers = new HashMap<>();

    private RandomRunsTest(long seed) {
        random = new Random(seed);
        // Small arms make many different answers quickly, wide ones the great numbers of poses.
        most = seed % 10 == 0 ? 8 : seed % 3 == 0 ? 3 : 2;
    }

    public static void main(String[] args) throws Exception {
        int runs = args.length > 0 ? Integer.parseInt(args[0]) : 100;
        int wrong = 0;
        for (int seed = 0; seed < runs && wrong < 5; seed++) {
            wrong += new RandomRunsTest(seed).run(seed) ? 0 : 1;
        }
        if (args.length > 1) {
            answers.entrySet().stream().sorted(Map.Entry.comparingByKey()).forEach(System.out::println);
        }
        System.out.println(runs + " runs, " + wrong + " wrong");
        if (wrong > 0) {
            System.exit(1);
        }
    }

    private boolean run(int seed) throws Exception {
        List<Method> face = new ArrayList<>();
        for (Method method : LatticeArm.class.getDeclaredMethods()) {
            if (Modifier.isPublic(method.getModifiers())) {
                face.add(method);
            }
        }
        face.sort(Comparator.comparing(Method::getName));
        while (calls.size() < 512) {
            Method method = face.get(random.nextInt(face.size()));
            if (random.nextInt(2) == 0) {
                String name = COMMON[random.nextInt(COMMON.length)];
                method = face.stream().filter(m -> m.getName().equals(name)).findFirst().orElseThrow();
            }
            if (method.getName().equals("clear") && random.nextInt(8) > 0) {
                continue;
            }
            if (method.getName().equals("append")) {
                String text = TEXTS[random.nextInt(TEXTS.length)];
                for (char c : text.toCharArray()) {
                    if (!agree(seed, method, c)) {
                        return false;
                    }
                }
            } else if (!agree(seed, method, arguments(method))) {
                return false;
            }
            if (method.getName().startsWith("plan") && !agreeOnPath(seed)) {
                return false;
            }
        }
        return true;
    }

    /** Compares the whole path, if there is one. */
    private boolean agreeOnPath(int seed) throws Exception {
        Method move = LatticeArm.class.getMethod("pathMove", int.class);
        for (int i = 0; i < 200 && calls.size() < 512; i++) {
            if (!agree(seed, move, i)) {
                return false;
            }
            if (calls.get(calls.size() - 1).endsWith("Exception")) {
                return true;
            }
        }
        return true;
    }

    private Object[] arguments(Method method) {
        Class<?>[] types = method.getParameterTypes();
        Object[] arguments = new Object[types.length];
        for (int i = 0; i < types.length; i++) {
            if (types[i] == boolean.class) {
                arguments[i] = random.nextBoolean();
            } else if (types[i] == char.class) {
                arguments[i] = random.nextInt(20) == 0 ? (char) random.nextInt(130) : (char) ('a' + random.nextInt(8));
            } else {
                arguments[i] = number(method.getName(), i);
            }
        }
        return arguments;
    }

    private int number(String name, int place) {
        if (random.nextInt(60) == 0) {
            int[] odd = {-1, Integer.MIN_VALUE, Integer.MAX_VALUE, 9, 11, -11, 10, -10, 60, 5001, 4};
            return odd[random.nextInt(odd.length)];
        }
        switch (name) {
            case "addLink":
                return place == 0 ? 1 + random.nextInt(4) : random.nextInt(most + 1);
            case "setLimits":
                return place == 0 ? random.nextInt(4) : random.nextInt(most + 1);
            case "setValue":
                return place == 0 ? random.nextInt(4) : random.nextInt(2 * most + 1) - most;
            case "planToPose":
            case "poseValue":
            case "isFreePose":
                return place == 1 ? random.nextInt(4) : random.nextInt(Math.max(1, model.count(2)) + 1);
            case "addObstacle":
            case "removeObstacle":
                return random.nextInt(11) - 5;
            case "planToCell":
            case "planSmooth":
            case "planNear":
            case "posesAt":
            case "linksAt":
                return likelyCoordinate(place);
            case "joint":
                return place == 0 ? random.nextInt(4) : random.nextInt(8);
            default:
                return random.nextInt(8);
        }
    }

    /** Often a coordinate of a tip that some pose has. */
    private int likelyCoordinate(int place) {
        int near = model.tip(place == 1);
        if (random.nextInt(3) > 0 && near >= -10 && near <= 10) {
            return Math.max(-10, Math.min(10, near + random.nextInt(5) - 2));
        }
        return random.nextInt(21) - 10;
    }

    /** Nothing is promised behind 512 calls. */
    private boolean agree(int seed, Method method, Object... arguments) throws Exception {
        if (calls.size() >= 512) {
            return true;
        }
        String got = answer(method, arm, arguments);
        String want = answer(Model.class.getMethod(method.getName(), method.getParameterTypes()), model, arguments);
        calls.add(method.getName() + java.util.Arrays.toString(arguments) + " " + got);
        String kind = want.endsWith("Exception") || want.endsWith("Error") ? want : "answer";
        answers.merge(method.getName() + " " + kind, 1, Integer::sum);
        if (got.equals(want)) {
            return true;
        }
        System.out.println("run " + seed + ", due at the end is " + want + ":");
        for (int i = Math.max(0, calls.size() - 60); i < calls.size(); i++) {
            System.out.println("  " + calls.get(i));
        }
        return false;
    }

    private static String answer(Method method, Object object, Object... arguments) throws Exception {
        try {
            return String.valueOf(method.invoke(object, arguments));
        } catch (InvocationTargetException e) {
            return e.getCause().getClass().getSimpleName();
        }
    }
}
