import java.lang.reflect.InvocationTargetException;
import java.lang.reflect.Method;
import java.util.ArrayList;
import java.util.Arrays;
import java.util.Comparator;
import java.util.List;
import java.util.Map;

/** Long runs of calls of every method, each measured by the Model: the answer or exception, and then the checksum. */
final class ModelTest {
    private static final int RUNS = 800;
    // Each with a call of checksum() behind it, so that an object is called 512 times at most.
    private static final int CALLS = 256;

    /** What each argument is: row, place, From, Number, Length, exponent, odd, after, sign, any int, true or false. */
    private static final Map<String, String> ARGUMENTS = Map.ofEntries(
            Map.entry("make", "rL"), Map.entry("set", "rpN"), Map.entry("fill", "rpN"), Map.entry("copy", "rr"),
            Map.entry("length", "r"), Map.entry("number", "rp"), Map.entry("useOdd", "o"), Map.entry("root", "L"),
            Map.entry("power", "Li"), Map.entry("values", "rb"), Map.entry("back", "r"), Map.entry("valueAt", "rN"),
            Map.entry("support", "r"), Map.entry("times", "rrb"), Map.entry("plainTimes", "rr"),
            Map.entry("invert", "r"), Map.entry("product", "ii"), Map.entry("digits", "ri"), Map.entry("told", "r"),
            Map.entry("shift", "ri"), Map.entry("weigh", "ri"), Map.entry("turnRound", "r"),
            Map.entry("combine", "rrs"), Map.entry("multiply", "rN"), Map.entry("repeat", "ra"),
            Map.entry("own", "r"), Map.entry("period", "r"), Map.entry("factor", "r"), Map.entry("sum", "rrb"),
            Map.entry("mean", "r"), Map.entry("zeros", "r"), Map.entry("isBack", "r"), Map.entry("isProduct", "rr"),
            Map.entry("isPlain", "rr"), Map.entry("isShifted", "ri"), Map.entry("isSum", "rrN"),
            Map.entry("isAgain", "ra"), Map.entry("isOwn", "r"), Map.entry("isInverse", "r"),
            Map.entry("isSound", ""), Map.entry("checksum", ""));

    private static final int[] EDGES = {
        Integer.MIN_VALUE, Integer.MIN_VALUE + 1, -65537, -33, -17, -16, -8, -5, -4, -3, -2, -1, 0, 1, 2, 3, 4, 5, 7, 8,
        15, 16, 17, 31, 32, 33, 255, 256, 4080, 8160, 32768, 65535, 65536, 65537, 65538, Integer.MAX_VALUE - 1,
        Integer.MAX_VALUE};

    private static long seed = 1;

    private static int draw(int bound) {
        seed = seed * 6364136223846793005L + 1442695040888963407L;
        return (int) ((seed >>> 33) % bound);
    }

    private static int anyInt() {
        return draw(2) == 0 ? EDGES[draw(EDGES.length)] : draw(1 << 16) << 16 | draw(1 << 16);
    }

    private static Object argument(char kind) {
        boolean isWild = draw(40) == 0;
        switch (kind) {
            case 'r':
                return isWild ? EDGES[draw(EDGES.length)] : draw(4);
            case 'L':
                return isWild ? EDGES[draw(EDGES.length)] : 2 << draw(4);
            case 'a':
                return isWild ? EDGES[draw(EDGES.length)] : 1 << draw(5);
            case 'p':
                return isWild ? EDGES[draw(EDGES.length)] : draw(draw(2) == 0 ? 3 : 18);
            case 'N':
                return isWild ? EDGES[draw(EDGES.length)] : draw(3) == 0 ? draw(3) : draw(65537);
            case 'o':
                return isWild ? EDGES[draw(EDGES.length)] : draw(34);
            case 's':
                return isWild ? (char) draw(65536) : "+-*".charAt(draw(3));
            case 'b':
                return draw(2) == 0;
            default:
                return anyInt();
        }
    }

    private static Object answer(Method method, Object of, Object[] arguments) throws ReflectiveOperationException {
        try {
            return method.invoke(of, arguments);
        } catch (InvocationTargetException thrown) {
            return thrown.getCause().getClass();
        }
    }

    private static Object[] arguments(String name) {
        String kinds = ARGUMENTS.get(name);
        Object[] arguments = new Object[kinds.length()];
        for (int i = 0; i < arguments.length; i++) {
            arguments[i] = argument(kinds.charAt(i));
        }
        return arguments;
    }

    private static List<Method> methods() {
        List<Method> methods = new ArrayList<>();
        for (Method method : Rootrows.class.getDeclaredMethods()) {
            if (ARGUMENTS.containsKey(method.getName())) {
                methods.add(method);
            }
        }
        methods.sort(Comparator.comparing(Method::getName));
        return methods;
    }

    private static boolean isRunAsDue(int run, List<Method> methods) throws ReflectiveOperationException {
        Rootrows x = new Rootrows();
        Model model = new Model();
        for (int call = 0; call < CALLS; call++) {
            Method method = methods.get(draw(methods.size()));
            // With make() as often as others, rows would be all 0 too often.
            if (method.getName().equals("make") && draw(3) > 0) {
                continue;
            }
            Object[] arguments = arguments(method.getName());
            Method other = Model.class.getMethod(method.getName(), method.getParameterTypes());
            Object got = answer(method, x, arguments);
            Object due = answer(other, model, arguments);
            if (!got.equals(due) || x.checksum() != model.checksum()) {
                System.out.println("run " + run + ", call " + call + ": " + method.getName()
                        + Arrays.toString(arguments) + " answered " + got + ", due is " + due
                        + ", checksum " + x.checksum() + ", due is " + model.checksum());
                return false;
            }
        }
        return true;
    }

    public static void main(String[] args) throws ReflectiveOperationException {
        List<Method> methods = methods();
        boolean isAsDue = methods.size() == ARGUMENTS.size();
        for (int run = 0; run < RUNS; run++) {
            isAsDue &= isRunAsDue(run, methods);
        }
        if (!isAsDue) {
            System.exit(1);
        }
    }
}
