import java.lang.reflect.InvocationTargetException;
import java.lang.reflect.Method;
import java.util.Arrays;
import java.util.Comparator;
import java.util.Random;

/** Random runs of at most 512 calls, the same ones each time, against the Model. */
public final class ModelTest {
    private static final int RUNS = 300;
    private static final int CALLS = 512;
    private static final String[] BUILDING = {"addCore speed", "addGroup group weight",
        "addPlain group weight units", "addTimed group weight period budget"};
    private static final String[] CHANGING = {"setLimit limit", "setCap cap", "end task",
        "take task lock", "take task lock", "take task lock", "release lock", "pass ticks",
        "pass ticks", "pass ticks", "pass ticks"};

    private static final Checks checks = new Checks();
    private static final Method[] FACE = face();

    public static void main(String[] args) {
        for (int part = 0; part < 3; part++) {
            int first = part * RUNS;
            checks.test("random runs from " + first, () -> runs(first));
        }
        checks.finish();
    }

    private static Method[] face() {
        Method[] methods = TaskKernel.class.getDeclaredMethods();
        methods = Arrays.stream(methods)
                .filter(m -> java.lang.reflect.Modifier.isPublic(m.getModifiers()))
                .sorted(Comparator.comparing(Method::getName)).toArray(Method[]::new);
        return methods;
    }

    private static void runs(int first) {
        for (int seed = first; seed < first + RUNS; seed++) {
            if (!run(new Random(seed), seed)) {
                return;
            }
        }
    }

    private static boolean run(Random random, int seed) {
        TaskKernel kernel = new TaskKernel();
        Model model = new Model();
        int few = random.nextInt(4);
        for (int call = 0; call < CALLS; call++) {
            String spec = pick(random, call, few);
            String[] words = spec.split(" ");
            Object[] arguments = new Object[words.length - 1];
            for (int i = 0; i < arguments.length; i++) {
                arguments[i] = number(random, words[i + 1]);
            }
            Object got = answer(kernel, words[0], arguments);
            Object want = answer(model, words[0], arguments);
            if (!got.equals(want)) {
                checks.due("seed " + seed + ", call " + call + ": " + words[0]
                        + Arrays.toString(arguments), got, want);
                return false;
            }
        }
        return true;
    }

    private static String pick(Random random, int call, int few) {
        int kind = random.nextInt(100);
        if (kind < (call < 20 + 20 * few ? 60 : 3)) {
            return BUILDING[random.nextInt(BUILDING.length)];
        }
        if (kind < 80 && random.nextInt(3) == 0) {
            String spec = CHANGING[random.nextInt(CHANGING.length)];
            return spec.startsWith("end") && random.nextInt(3) > 0 ? "pass ticks" : spec;
        }
        Method method = FACE[random.nextInt(FACE.length)];
        String name = method.getName();
        for (String spec : BUILDING) {
            if (spec.startsWith(name + " ")) {
                return spec;
            }
        }
        for (String spec : CHANGING) {
            if (spec.startsWith(name + " ")) {
                return "isSound";
            }
        }
        return switch (name) {
            case "heat", "pace", "choice", "choiceByComparing" -> name + " core";
            case "timeOfGroup", "doneIn" -> name + " group";
            case "holderOf" -> name + " lock";
            case "waiterAt" -> name + " lock index";
            default -> method.getParameterCount() == 0 ? name : name + " task";
        };
    }

    private static int number(Random random, String kind) {
        return switch (kind) {
            case "speed" -> between(random, 1, 4, 4);
            case "limit" -> between(random, 1, 30, 99);
            case "cap" -> random.nextInt(3) == 0 ? 12 : between(random, 0, 12, 12);
            case "core" -> between(random, 0, 2, 2);
            case "group" -> between(random, 0, 3, 5);
            case "weight" -> between(random, 1, 9, 9);
            case "units" -> between(random, 1, 60, 500);
            case "period" -> between(random, 2, 15, 60);
            case "budget" -> between(random, 1, 6, 40);
            case "task" -> between(random, 0, 7, 11);
            case "lock" -> between(random, 0, 3, 3);
            case "index" -> between(random, 0, 3, 10);
            case "ticks" -> between(random, 1, 4, 50);
            default -> throw new IllegalStateException(kind);
        };
    }

    /** Mostly a number up to the usual one, now and then one up to the highest, seldom a wrong one. */
    private static int between(Random random, int low, int usual, int high) {
        int kind = random.nextInt(100);
        if (kind < 3) {
            int[] wrong = {low - 1, high + 1, -1, Integer.MIN_VALUE, Integer.MAX_VALUE};
            return wrong[random.nextInt(wrong.length)];
        }
        int top = kind < 20 ? high : usual;
        return low + random.nextInt(top - low + 1);
    }

    private static Object answer(Object on, String name, Object[] arguments) {
        try {
            Class<?>[] types = new Class<?>[arguments.length];
            Arrays.fill(types, int.class);
            return on.getClass().getMethod(name, types).invoke(on, arguments);
        } catch (InvocationTargetException e) {
            return on instanceof TaskKernel ? Checks.kindOf(e.getCause()) : e.getCause().getClass();
        } catch (ReflectiveOperationException e) {
            throw new IllegalStateException(e);
        }
    }
}
