/** Counts the answers that are not as due, and tells each of them. */
final class Check {
    /** A call that is to throw. */
    interface Call {
        void run();
    }

    static final Class<? extends RuntimeException> PLACE = IndexOutOfBoundsException.class;
    static final Class<? extends RuntimeException> ARGUMENT = IllegalArgumentException.class;
    static final Class<? extends RuntimeException> STATE = IllegalStateException.class;

    /** Ints that stand at or just beyond some edge. */
    static final int[] FAR = {Integer.MIN_VALUE, -65537, -17, -1, 65537, 65538, Integer.MAX_VALUE};
    static final int[] NO_ROWS = {Integer.MIN_VALUE, -1, 4, 5, Integer.MAX_VALUE};
    static final int[] NO_LENGTHS = {Integer.MIN_VALUE, -2, 0, 1, 3, 5, 6, 12, 15, 17, 32, 64, Integer.MAX_VALUE};
    static final int[] LENGTHS = {2, 4, 8, 16};

    private int wrong = 0;

    void same(String what, long got, long due) {
        if (got != due) {
            tell(what + " answered " + got + ", due is " + due);
        }
    }

    void same(String what, double got, double due) {
        if (Double.compare(got, due) != 0) {
            tell(what + " answered " + got + ", due is " + due);
        }
    }

    void same(String what, boolean got, boolean due) {
        if (got != due) {
            tell(what + " answered " + got + ", due is " + due);
        }
    }

    void row(String what, Rootrows x, int row, int... due) {
        same(what + ": length", x.length(row), due.length);
        for (int i = 0; i < due.length && i < x.length(row); i++) {
            same(what + ": number " + i, x.number(row, i), due[i]);
        }
    }

    /** The call throws just this exception, and changes nothing. */
    void refuses(String what, Rootrows x, Class<? extends RuntimeException> due, Call call) {
        long before = x.checksum();
        try {
            call.run();
            tell(what + " threw nothing, due is " + due.getSimpleName());
        } catch (RuntimeException thrown) {
            if (thrown.getClass() != due) {
                tell(what + " threw " + thrown + ", due is " + due.getSimpleName());
            }
        }
        same(what + ": checksum after it", x.checksum(), before);
    }

    /** The call answers true, and changes nothing. */
    void stands(String what, Rootrows x, boolean got, long before) {
        same(what, got, true);
        same(what + ": checksum after it", x.checksum(), before);
    }

    private void tell(String text) {
        wrong++;
        if (wrong <= 50) {
            System.out.println(text);
        }
    }

    void end() {
        if (wrong > 0) {
            System.out.println(wrong + " answers are not as due");
            System.exit(1);
        }
    }

    /** A row of a new object is given these numbers. */
    static Rootrows with(int... numbers) {
        Rootrows x = new Rootrows();
        put(x, 0, numbers);
        return x;
    }

    static void put(Rootrows x, int row, int... numbers) {
        x.make(row, numbers.length);
        for (int i = 0; i < numbers.length; i++) {
            x.set(row, i, numbers[i]);
        }
    }
}
