import java.lang.reflect.InvocationTargetException;
import java.lang.reflect.Method;
import java.util.ArrayList;
import java.util.Arrays;
import java.util.Comparator;
import java.util.HashMap;
import java.util.List;
import java.util.Map;
import java.util.Random;
import java.util.TreeMap;

/** Runs of calls, the same ones each time, with what Model answers as due; and the state behind each run. */
public final class RandomRunsTest {
    private static final int[] EDGES = {-1, 0, 1, 2, 7, 8, 9, 39, 40, 63, 64, 65, 255, 256, 65535, 65536,
        Integer.MIN_VALUE, Integer.MAX_VALUE};
    private static final Map<String, Integer> ANSWERED = new TreeMap<>();
    private static final Map<String, Method> OF_MODEL = new HashMap<>();
    /** A run leaves room for the calls that lay THE ROW once more. */
    private static final int MOST_TO_MAKE_AGAIN = 340;

    private final Random random;
    private final int size;
    private final Subject fields;
    private final Model model;
    private final String name;

    private RandomRunsTest(int seed, int bits) {
        random = new Random(seed);
        size = bits == 16 ? 65536 : 256;
        int poly = random.nextInt();
        fields = new Subject(bits, poly);
        model = new Model(bits, poly);
        name = "run " + seed + " of " + bits;
    }

    public static void main(String[] args) throws ReflectiveOperationException {
        List<Method> calls = new ArrayList<>();
        for (Method method : ByteFields.class.getDeclaredMethods()) {
            if (java.lang.reflect.Modifier.isPublic(method.getModifiers())) {
                Class<?>[] types = method.getParameterTypes();
                calls.add(Subject.class.getDeclaredMethod(method.getName(), types));
                OF_MODEL.put(method.getName(), Model.class.getMethod(method.getName(), types));
            }
        }
        calls.sort(Comparator.comparing(Method::getName));
        for (int seed = 0; seed < 1600; seed++) {
            new RandomRunsTest(seed, seed % 8 == 7 ? 16 : 8).run(calls, seed);
        }
        for (Method call : calls) {
            Check.holds(call.getName() + " answered often enough to tell anything: " + ANSWERED.get(call.getName()),
                    ANSWERED.getOrDefault(call.getName(), 0) >= 300);
        }
        Check.end();
    }

    private void run(List<Method> calls, int seed) throws ReflectiveOperationException {
        int count = 60 + seed % 5 * 100;
        for (int n = 0; n < count && fields.callsToMakeAgain() < MOST_TO_MAKE_AGAIN; n++) {
            Method call = calls.get(random.nextInt(calls.size()));
            prepare(call.getName());
            ask(call, argumentsOf(call));
        }
        endState(calls);
    }

    private void endState(List<Method> calls) throws ReflectiveOperationException {
        Map<String, Method> named = new HashMap<>();
        for (Method call : calls) {
            named.put(call.getName(), call);
        }
        for (int what = 0; what < 4; what++) {
            ask(named.get("told"), what);
        }
        for (int k = 0; k <= model.told(0); k++) {
            ask(named.get("row"), k);
        }
        for (int m = 0; m < model.told(1); m++) {
            ask(named.get("size"), m, 0);
            ask(named.get("size"), m, 1);
            for (int k = 0; k < model.size(m, 0) * model.size(m, 1); k++) {
                ask(named.get("cell"), m, k / model.size(m, 1), k % model.size(m, 1));
            }
        }
        for (int p = 0; p < model.told(2); p++) {
            ask(named.get("degree"), p);
            for (int k = 0; k <= model.degree(p); k++) {
                ask(named.get("coefficient"), p, k);
            }
        }
    }

    private void ask(Method call, Object... arguments) throws ReflectiveOperationException {
        String got = outcome(call, fields, arguments);
        String due = outcome(OF_MODEL.get(call.getName()), model, arguments);
        if (!due.startsWith("throws")) {
            ANSWERED.merge(call.getName(), 1, Integer::sum);
        }
        Check.same(name + ": " + call.getName() + Arrays.toString(arguments), got, due);
    }

    private static String outcome(Method call, Object target, Object[] arguments) throws ReflectiveOperationException {
        try {
            return String.valueOf(call.invoke(target, arguments));
        } catch (InvocationTargetException e) {
            return target instanceof Model ? "throws." + e.getCause().getClass().getSimpleName()
                    : Check.thrown(e.getCause());
        }
    }

    /** Mostly lays THE ROW so that the call can answer. */
    private void prepare(String call) {
        if (random.nextInt(8) == 0) {
            return;
        }
        switch (call) {
            case "polynomial":
                fill(random.nextInt(random.nextInt(6) == 0 ? 70 : 9));
                break;
            case "through":
                fill(2 * random.nextInt(random.nextInt(6) == 0 ? 66 : 6));
                break;
            case "span":
                fill(random.nextInt(random.nextInt(4) == 0 ? 8 : 5));
                break;
            case "back":
                fill(model.told(3));
                break;
            case "solve":
                fill(model.told(1) == 0 ? 1 : model.size(random.nextInt(model.told(1)), 0));
                break;
            case "powers":
                fill(1 + random.nextInt(4));
                break;
            case "sums":
                fill(2 + random.nextInt(6));
                break;
            case "times": case "invert": case "rank": case "determinant": case "singular":
                fillMatrix();
                break;
            default:
        }
    }

    private void fillMatrix() {
        int kind = random.nextInt(3);
        int matrix = one(model.told(1));
        if (matrix < model.told(1)) {
            for (int i = 0; i < model.size(matrix, 0); i++) {
                for (int j = 0; j < model.size(matrix, 1); j++) {
                    int member = member(kind);
                    fields.set(matrix, i, j, member);
                    model.set(matrix, i, j, member);
                }
            }
        }
    }

    private void fill(int count) {
        int kind = random.nextInt(3);
        fields.drop();
        model.drop();
        for (int k = 0; k < count; k++) {
            int member = member(kind);
            fields.put(member);
            model.put(member);
        }
    }

    /** Of all members, of few (so that some are alike and sums vanish), or of both. */
    private int member(int kind) {
        boolean few = kind == 1 || kind == 2 && random.nextBoolean();
        return random.nextInt(few ? 3 : size);
    }

    private Object[] argumentsOf(Method call) {
        Class<?>[] types = call.getParameterTypes();
        Object[] arguments = new Object[types.length];
        for (int k = 0; k < types.length; k++) {
            if (types[k] == boolean.class) {
                arguments[k] = random.nextBoolean();
            } else if (types[k] == long.class) {
                arguments[k] = random.nextBoolean() ? random.nextLong() : random.nextInt(7) - 3L;
            } else {
                arguments[k] = random.nextInt(25) == 0 ? EDGES[random.nextInt(EDGES.length)]
                        : usual(call.getName(), k);
            }
        }
        if (random.nextInt(6) != 0) {
            fitToRow(call.getName(), arguments);
        }
        return arguments;
    }

    /** Sides that go with as many members as THE ROW has. */
    private void fitToRow(String call, Object[] arguments) {
        if (call.equals("powers")) {
            arguments[0] = model.told(0);
        } else if (call.equals("sums") && model.told(0) > 1) {
            int rows = 1 + random.nextInt(model.told(0) - 1);
            arguments[0] = rows;
            arguments[1] = model.told(0) - rows;
        }
    }

    private int usual(String call, int place) {
        switch (call) {
            case "product": case "quotient": case "power": case "log": case "order": case "put":
                return member(2);
            case "row":
                return random.nextInt(10);
            case "told":
                return random.nextInt(4);
            case "matrix": case "powers": case "sums":
                return 1 + random.nextInt(random.nextInt(20) == 0 ? 8 : 4);
            case "size":
                return place == 0 ? one(model.told(1)) : random.nextInt(2);
            case "cell": case "set":
                return place == 0 ? one(model.told(1)) : place == 3 ? member(2) : random.nextInt(4);
            case "times": case "invert": case "rank": case "determinant": case "singular": case "solve":
                return one(model.told(1));
            case "coefficient":
                return place == 0 ? one(model.told(2)) : random.nextInt(9);
            case "value": case "often":
                return place == 0 ? one(model.told(2)) : member(2);
            case "root":
                return place == 0 ? one(model.told(2)) : random.nextInt(3);
            case "parts":
                return place == 0 ? one(model.told(2)) : 1 + random.nextInt(random.nextInt(3) == 0 ? 64 : 4);
            default:
                return one(model.told(2));
        }
    }

    /** A number there is, or the first there is not. */
    private int one(int count) {
        return count == 0 ? 0 : random.nextInt(20) == 0 ? count : random.nextInt(count);
    }
}
