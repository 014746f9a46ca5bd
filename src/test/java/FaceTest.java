import java.lang.reflect.Constructor;
import java.lang.reflect.Field;
import java.lang.reflect.Method;
import java.lang.reflect.Modifier;
import java.util.Arrays;
import java.util.Set;
import java.util.TreeSet;

/**
 * The public face is just the document's, and nothing else of the class can be seen from without; of LANGUAGE.md, that
 * no private method bears the name of a public one.
 */
final class FaceTest {
    private static final String DUE = String.join("\n",
            "int make(int, int) IndexOutOfBoundsException IllegalArgumentException",
            "int set(int, int, int) IndexOutOfBoundsException IllegalArgumentException",
            "int fill(int, int, int) IndexOutOfBoundsException IllegalArgumentException",
            "boolean copy(int, int) IndexOutOfBoundsException",
            "int length(int) IndexOutOfBoundsException",
            "int number(int, int) IndexOutOfBoundsException",
            "int useOdd(int) IllegalArgumentException",
            "int root(int) IllegalArgumentException",
            "int power(int, int) IllegalArgumentException",
            "int values(int, boolean) IndexOutOfBoundsException",
            "int back(int) IndexOutOfBoundsException",
            "int valueAt(int, int) IndexOutOfBoundsException IllegalArgumentException",
            "int support(int) IndexOutOfBoundsException",
            "int times(int, int, boolean) IndexOutOfBoundsException IllegalStateException",
            "int plainTimes(int, int) IndexOutOfBoundsException IllegalStateException",
            "int invert(int) IndexOutOfBoundsException IllegalStateException",
            "long product(int, int)",
            "int digits(int, int) IndexOutOfBoundsException",
            "long told(int) IndexOutOfBoundsException",
            "int shift(int, int) IndexOutOfBoundsException",
            "int weigh(int, int) IndexOutOfBoundsException",
            "boolean turnRound(int) IndexOutOfBoundsException",
            "int combine(int, int, char) IndexOutOfBoundsException IllegalArgumentException IllegalStateException",
            "int multiply(int, int) IndexOutOfBoundsException IllegalArgumentException",
            "int repeat(int, int) IndexOutOfBoundsException IllegalArgumentException",
            "int own(int) IndexOutOfBoundsException",
            "int period(int) IndexOutOfBoundsException",
            "int factor(int) IndexOutOfBoundsException",
            "int sum(int, int, boolean) IndexOutOfBoundsException IllegalStateException",
            "double mean(int) IndexOutOfBoundsException",
            "float zeros(int) IndexOutOfBoundsException",
            "boolean isBack(int) IndexOutOfBoundsException",
            "boolean isProduct(int, int) IndexOutOfBoundsException IllegalStateException",
            "boolean isPlain(int, int) IndexOutOfBoundsException IllegalStateException",
            "boolean isShifted(int, int) IndexOutOfBoundsException",
            "boolean isSum(int, int, int) IndexOutOfBoundsException IllegalArgumentException IllegalStateException",
            "boolean isAgain(int, int) IndexOutOfBoundsException IllegalArgumentException",
            "boolean isOwn(int) IndexOutOfBoundsException",
            "boolean isInverse(int) IndexOutOfBoundsException",
            "boolean isSound()",
            "long checksum()");

    private static String list(Class<?>[] types, String between) {
        StringBuilder text = new StringBuilder();
        for (Class<?> type : types) {
            text.append(text.length() == 0 ? "" : between).append(type.getSimpleName());
        }
        return text.toString();
    }

    private static String line(Method method) {
        String thrown = list(method.getExceptionTypes(), " ");
        return method.getReturnType().getSimpleName() + " " + method.getName() + "("
                + list(method.getParameterTypes(), ", ") + ")" + (thrown.isEmpty() ? "" : " " + thrown);
    }

    public static void main(String[] args) throws NoSuchFieldException {
        Check check = new Check();
        Set<String> left = new TreeSet<>(Arrays.asList(DUE.split("\n")));
        for (Method method : Rootrows.class.getDeclaredMethods()) {
            if (Modifier.isPublic(method.getModifiers())) {
                check.same("the document has " + line(method), left.remove(line(method)), true);
                check.same("modifiers of " + method, method.getModifiers(), Modifier.PUBLIC);
            } else {
                check.same(method + " is private", Modifier.isPrivate(method.getModifiers()), true);
                check.same(method + " bears a public name", publicNames().contains(method.getName()), false);
            }
        }
        check.same("left out are " + left, left.size(), 0);
        for (Class<?> inside : Rootrows.class.getDeclaredClasses()) {
            for (Method method : inside.getDeclaredMethods()) {
                check.same(method + " bears a public name", publicNames().contains(method.getName()), false);
            }
        }
        for (Field field : Rootrows.class.getDeclaredFields()) {
            boolean isDue = field.getName().equals("NONE") || Modifier.isPrivate(field.getModifiers());
            check.same(field + " is private", isDue, true);
        }
        constructors(check);
        none(check);
        check.same("the class", Rootrows.class.getModifiers(), Modifier.PUBLIC | Modifier.FINAL);
        check.same("the class above it", Rootrows.class.getSuperclass().getName(), "java.lang.Object");
        check.same("interfaces", Rootrows.class.getInterfaces().length, 0);
        check.end();
    }

    private static Set<String> publicNames() {
        Set<String> names = new TreeSet<>();
        for (String line : DUE.split("\n")) {
            names.add(line.substring(line.indexOf(' ') + 1, line.indexOf('(')));
        }
        return names;
    }

    private static void constructors(Check check) {
        Constructor<?>[] constructors = Rootrows.class.getDeclaredConstructors();
        check.same("constructors", constructors.length, 1);
        check.same("modifiers of the constructor", constructors[0].getModifiers(), Modifier.PUBLIC);
        check.same("its parameters", constructors[0].getParameterCount(), 0);
        check.same("its exceptions", constructors[0].getExceptionTypes().length, 0);
    }

    private static void none(Check check) throws NoSuchFieldException {
        Field none = Rootrows.class.getDeclaredField("NONE");
        check.same("modifiers of NONE", none.getModifiers(), Modifier.PUBLIC | Modifier.STATIC | Modifier.FINAL);
        check.same("the type of NONE", none.getType().getName(), "int");
        check.same("NONE", Rootrows.NONE, -1);
    }
}
