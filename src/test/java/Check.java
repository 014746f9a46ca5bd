import java.util.Arrays;

/** Counts the answers that are not as due, and tells each of them. */
final class Check {
    /** A call that is to throw. */
    interface Call {
        void run();
    }

    static final Class<? extends RuntimeException> PLACE = IndexOutOfBoundsException.class;
    static final Class<? extends RuntimeException> ARGUMENT = IllegalArgumentException.class;
    static final Class<? extends RuntimeException> STATE = IllegalStateException.class;

    /** Ints that stand at or just beyond some edge. */
    static final int[] FAR = {Integer.MIN_VALUE, -65537, -17, -1, 65537, 65538, Integer.MAX_VALUE};
    static final int[] NO_ROWS = {Integer.MIN_VALUE, -1, 4, 5, Integer.MAX_VALUE};
    static final int[] NO_LENGTHS = {Integer.MIN_VALUE, -2, 0, 1, 3, 5, 6, 12, 15, 17, 32, 64, Integer.MAX_VALUE};
    static final int[] LENGTHS = {2, 4, 8, 16};

    private String sentence = "";
    private int wrong = 0;

    /** Names the document's sentence that the checks after this call test. */
    void sentence(String text) {
        sentence = text + ": ";
    }

    void same(String what, long got, long due) {
        if (got != due) {
            tell(what + " answered " + got + ", due is " + due);
        }
    }

    void same(String what, double got, double due) {
        if (Double.compare(got, due) != 0) {
            tell(what + " answered " + got + ", due is " + due);
        }
    }

    void same(String what, boolean got, boolean due) {
        if (got != due) {
            tell(what + " answered " + got + ", due is " + due);
        }
    }

    void same(String what, String got, String due) {
        if (!got.equals(due)) {
            tell(what + " answered " + got + ", due is " + due);
        }
    }

    void row(String what, Rootrows x, int row, int... due) {
        int[] got = numbers(x, row);
        same(what + ": length", got.length, due.length);
        for (int i = 0; i < due.length && i < got.length; i++) {
            same(what + ": number " + i, got[i], due[i]);
        }
    }

    /** The call throws just this exception, and changes nothing. */
    void refuses(String what, Rootrows x, Class<? extends RuntimeException> due, Call call) {
        String before = state(x);
        try {
            call.run();
            tell(what + " threw nothing, due is " + due.getSimpleName());
        } catch (RuntimeException thrown) {
            if (thrown.getClass() != due) {
                tell(what + " threw " + thrown + ", due is " + due.getSimpleName());
            }
        }
        same(what + ": what stands after it", state(x), before);
    }

    /** The call throws nothing. */
    void allows(String what, Call call) {
        try {
            call.run();
        } catch (RuntimeException thrown) {
            tell(what + " threw " + thrown + ", due is an answer");
        }
    }

    /** The call, which throws nothing, changes nothing. */
    void leaves(String what, Rootrows x, Call call) {
        String before = state(x);
        allows(what, call);
        same(what + ": what stands after it", state(x), before);
    }

    /** The call answers true, and changes nothing. */
    void stands(String what, Rootrows x, boolean got, long before) {
        same(what, got, true);
        same(what + ": checksum after it", x.checksum(), before);
    }

    private void tell(String text) {
        wrong++;
        if (wrong <= 50) {
            System.out.println(sentence + text);
        }
    }

    void end() {
        if (wrong > 0) {
            System.out.println(wrong + " answers are not as due");
            System.exit(1);
        }
    }

    /** All that can be asked of an object without changing it. */
    static String state(Rootrows x) {
        StringBuilder text = new StringBuilder();
        for (int row = 0; row < 4; row++) {
            for (int number : numbers(x, row)) {
                text.append(number).append(' ');
            }
            text.append("| ");
        }
        return text.append(x.checksum()).toString();
    }

    static int[] numbers(Rootrows x, int row) {
        int[] numbers = new int[x.length(row)];
        for (int i = 0; i < numbers.length; i++) {
            numbers[i] = x.number(row, i);
        }
        return numbers;
    }

    /** 1, 2, 3 and so on. */
    static int[] ramp(int n) {
        int[] numbers = new int[n];
        for (int i = 0; i < n; i++) {
            numbers[i] = i + 1;
        }
        return numbers;
    }

    /** The same number everywhere. */
    static int[] all(int n, int number) {
        int[] numbers = new int[n];
        Arrays.fill(numbers, number);
        return numbers;
    }

    /** 0 everywhere but at one place. */
    static int[] only(int n, int place, int number) {
        int[] numbers = new int[n];
        numbers[place] = number;
        return numbers;
    }

    /** Numbers from all over the range, no two rows of them alike. */
    static int[] mixed(int n, int seed) {
        int[] numbers = new int[n];
        for (int i = 0; i < n; i++) {
            numbers[i] = reduced((i + 3L) * (i + 3) * 31337 + (i + 1L) * seed * 7919);
        }
        return numbers;
    }

    /** What 65537 leaves of a number, from 0 to 65536, also of one below 0. */
    static int reduced(long number) {
        return (int) Math.floorMod(number, 65537L);
    }

    /** A power reckoned step by step. */
    static int power(long of, int exponent) {
        long power = 1;
        for (int i = 0; i < exponent; i++) {
            power = power * of % 65537;
        }
        return (int) power;
    }

    /** A row of a new object is given these numbers. */
    static Rootrows with(int... numbers) {
        Rootrows x = new Rootrows();
        put(x, 0, numbers);
        return x;
    }

    static void put(Rootrows x, int row, int... numbers) {
        x.make(row, numbers.length);
        for (int i = 0; i < numbers.length; i++) {
            x.set(row, i, numbers[i]);
        }
    }
}
