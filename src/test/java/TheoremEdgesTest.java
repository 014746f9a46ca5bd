import java.math.BigInteger;

/** What the document names as edges of the theorem and of the whole: the sentences of promises 33 to 42. */
final class TheoremEdgesTest {
    private static final Check CHECK = new Check();
    private static final int[] ODDS = {1, 3, 17, 29, 31};

    /** Rows of zeros, of 65536, of one number at the first and the last place, and a mixed one. */
    private static int[][] edgeRows(int n) {
        return new int[][] {new int[n], Check.all(n, 65536), Check.only(n, 0, 65536), Check.only(n, n - 1, 65536),
            Check.mixed(n, 9)};
    }

    /** A test of an object in whose rows 0 and 3, both of n numbers, edge rows stand. */
    private interface Two {
        void of(Rootrows x, int n);
    }

    private static void eachTwo(Two test) {
        for (int odd : ODDS) {
            for (int n : Check.LENGTHS) {
                for (int[] one : edgeRows(n)) {
                    for (int[] other : edgeRows(n)) {
                        Rootrows x = Check.with(one);
                        x.useOdd(odd);
                        Check.put(x, 3, other);
                        test.of(x, n);
                    }
                }
            }
        }
    }

    private static void allTrue(String what, boolean... answers) {
        for (boolean answer : answers) {
            CHECK.same(what, answer, true);
        }
    }

    private static void backOfEdges() {
        CHECK.sentence("Promise 33, returns whether they are; always true");
        eachTwo((x, n) -> CHECK.leaves("isBack", x,
                () -> allTrue("isBack", x.isBack(0), x.isBack(1), x.isBack(3))));
    }

    private static void productOfEdges() {
        CHECK.sentence("Promise 34, returns whether it is; always true; also of a row and itself");
        eachTwo((x, n) -> CHECK.leaves("isProduct", x, () -> allTrue("isProduct",
                x.isProduct(0, 3), x.isProduct(3, 0), x.isProduct(0, 0), x.isProduct(1, 2))));
    }

    private static void plainOfEdges() {
        CHECK.sentence("Promise 35, returns whether it is; always true; also of a row and itself");
        eachTwo((x, n) -> {
            if (n < 16) {
                CHECK.leaves("isPlain", x, () -> allTrue("isPlain",
                        x.isPlain(0, 3), x.isPlain(3, 0), x.isPlain(0, 0), x.isPlain(1, 2)));
            }
        });
    }

    private static void shiftedByEdges() {
        CHECK.sentence("Promise 36, by: any number, also below 0; always true");
        for (int by : new int[] {Integer.MIN_VALUE, Integer.MIN_VALUE + 1, -17, -16, -1, 0, 1, 2, 15, 16, 17,
            Integer.MAX_VALUE - 1, Integer.MAX_VALUE}) {
            eachTwo((x, n) -> CHECK.leaves("isShifted by " + by, x,
                    () -> allTrue("isShifted", x.isShifted(0, by), x.isShifted(3, by))));
        }
    }

    private static void sumByEdges() {
        CHECK.sentence("Promise 37, factor: 0 to 65536; always true; also of a row and itself");
        for (int factor : new int[] {0, 1, 2, 32768, 65535, 65536}) {
            eachTwo((x, n) -> CHECK.leaves("isSum by " + factor, x, () -> allTrue("isSum",
                    x.isSum(0, 3, factor), x.isSum(3, 0, factor), x.isSum(3, 3, factor))));
        }
        Rootrows x = new Rootrows();
        for (int factor : Check.FAR) {
            CHECK.refuses("isSum by " + factor, x, Check.ARGUMENT, () -> x.isSum(0, 3, factor));
        }
    }

    private static boolean isAfter(int after, int n) {
        return (after == 1 || after == 2 || after == 4 || after == 8 || after == 16) && after <= n;
    }

    private static void againRange() {
        CHECK.sentence("Promise 38, after: 1, 2, 4, 8 or 16, at most the LENGTH");
        for (int n : Check.LENGTHS) {
            for (int after = -40; after <= 70; after++) {
                againAfter(n, after);
            }
            for (int after : new int[] {Integer.MIN_VALUE, Integer.MIN_VALUE + 1, 1 << 16, 1 << 30, Integer.MAX_VALUE}) {
                againAfter(n, after);
            }
        }
    }

    private static void againAfter(int n, int after) {
        Rootrows x = Check.with(Check.mixed(n, 8));
        String what = "after " + after + " of " + n;
        if (isAfter(after, n)) {
            CHECK.leaves(what, x, () -> CHECK.same(what, x.isAgain(0, after), true));
        } else {
            CHECK.refuses(what, x, Check.ARGUMENT, () -> x.isAgain(0, after));
        }
    }

    private static void againOfEdges() {
        CHECK.sentence("Promise 38, always true, of rows that come again and of rows that do not");
        eachTwo((x, n) -> {
            for (int after = 1; after <= n; after *= 2) {
                int told = after;
                CHECK.leaves("isAgain", x,
                        () -> allTrue("isAgain", x.isAgain(0, told), x.isAgain(3, told)));
            }
        });
        for (int n : Check.LENGTHS) {
            for (int again = 1; again <= n; again *= 2) {
                Rootrows x = Check.with(Check.ramp(n));
                x.repeat(0, again);
                for (int after = 1; after <= n; after *= 2) {
                    CHECK.same("isAgain", x.isAgain(0, after), true);
                }
            }
        }
    }

    private static void againByValues() {
        CHECK.sentence("(9), comes again after d just if its VALUES are 0 at all places that are no multiples of n / d");
        for (int odd : ODDS) {
            for (int n : Check.LENGTHS) {
                for (int d = 1; d <= n; d *= 2) {
                    int[] values = new int[n];
                    for (int j = 0; j < n; j += n / d) {
                        values[j] = 65536 - j;
                    }
                    Rootrows x = Check.with(values);
                    x.useOdd(odd);
                    x.back(0);
                    CHECK.same("period", x.period(0), d);
                    for (int after = 1; after <= n; after *= 2) {
                        CHECK.same("isAgain", x.isAgain(0, after), true);
                    }
                }
            }
        }
    }

    private static void ownOfEdges() {
        CHECK.sentence("Promise 39, returns whether it is; always true");
        eachTwo((x, n) -> CHECK.leaves("isOwn", x,
                () -> allTrue("isOwn", x.isOwn(0), x.isOwn(1), x.isOwn(3))));
    }

    private static void inverseOfEdges() {
        CHECK.sentence("Promise 40, returns whether it is; always true");
        eachTwo((x, n) -> CHECK.leaves("isInverse", x,
                () -> allTrue("isInverse", x.isInverse(0), x.isInverse(1), x.isInverse(3))));
    }

    private static void inverseWithValueZero() {
        CHECK.sentence("(11), if no value of a is 0: also asked of rows with one value that is 0");
        for (int n : Check.LENGTHS) {
            for (int place = 0; place < n; place++) {
                int[] values = Check.all(n, 65536);
                values[place] = 0;
                Rootrows x = Check.with(values);
                x.back(0);
                CHECK.leaves("isInverse", x, () -> CHECK.same("isInverse", x.isInverse(0), true));
                CHECK.refuses("invert", x, Check.STATE, () -> x.invert(0));
            }
        }
    }

    private static void soundWhole() {
        CHECK.sentence("Promise 41, returns whether this is so; always true");
        Rootrows made = new Rootrows();
        CHECK.leaves("a new object", made, () -> CHECK.same("isSound", made.isSound(), true));
        eachTwo((x, n) -> {
            CHECK.leaves("isSound", x, () -> CHECK.same("isSound", x.isSound(), true));
            x.values(0, true);
            x.own(3);
            x.multiply(3, 65536);
            x.combine(1, 1, '-');
            CHECK.same("isSound", x.isSound(), true);
        });
    }

    private static void theoremUnlike() {
        CHECK.sentence("Promises 34, 35 and 37, throws IllegalStateException if their LENGTHS are unlike, or are 16");
        for (int n : Check.LENGTHS) {
            for (int m : Check.LENGTHS) {
                Rootrows x = Check.with(Check.ramp(n));
                Check.put(x, 3, Check.ramp(m));
                if (n != m) {
                    CHECK.refuses("isProduct", x, Check.STATE, () -> x.isProduct(0, 3));
                    CHECK.refuses("isSum", x, Check.STATE, () -> x.isSum(0, 3, 65536));
                }
                if (n != m || n == 16) {
                    CHECK.refuses("isPlain", x, Check.STATE, () -> x.isPlain(0, 3));
                }
            }
        }
        Rootrows x = Check.with(Check.ramp(16));
        CHECK.refuses("isPlain with itself", x, Check.STATE, () -> x.isPlain(0, 0));
        CHECK.allows("isProduct with itself", () -> x.isProduct(0, 0));
    }

    /** Reckoned without going round, and only then cut to a long. */
    private static long checksum(int odd, int[]... rows) {
        BigInteger h = BigInteger.valueOf(7 * 31 + odd);
        for (int[] row : rows) {
            h = h.multiply(BigInteger.valueOf(31)).add(BigInteger.valueOf(row.length));
            for (int number : row) {
                h = h.multiply(BigInteger.valueOf(31)).add(BigInteger.valueOf(number));
            }
        }
        return h.longValue();
    }

    private static void checksumOfNew() {
        CHECK.sentence("Promise 42, h is 7 at first");
        int[] zeros = new int[2];
        CHECK.same("checksum", new Rootrows().checksum(), checksum(1, zeros, zeros, zeros, zeros));
    }

    private static void checksumGoesRound() {
        CHECK.sentence("Promise 42, as a long that goes round");
        for (int odd : ODDS) {
            Rootrows x = Check.with(Check.all(16, 65536));
            x.useOdd(odd);
            Check.put(x, 1, Check.mixed(16, 1));
            Check.put(x, 2, Check.mixed(16, 2));
            Check.put(x, 3, Check.all(16, 65535));
            CHECK.same("checksum", x.checksum(), checksum(odd, Check.all(16, 65536), Check.mixed(16, 1),
                    Check.mixed(16, 2), Check.all(16, 65535)));
        }
    }

    private static void checksumEachNumber() {
        CHECK.sentence("Promise 42, of each row, its LENGTH, then its numbers, from place 0 on");
        for (int row = 0; row < 4; row++) {
            for (int n : Check.LENGTHS) {
                for (int place = 0; place < n; place++) {
                    Rootrows x = new Rootrows();
                    int[][] rows = {new int[2], new int[2], new int[2], new int[2]};
                    rows[row] = Check.only(n, place, 65536);
                    Check.put(x, row, rows[row]);
                    CHECK.same("checksum", x.checksum(), checksum(1, rows));
                }
            }
        }
    }

    private static void checksumBehindTheLength() {
        CHECK.sentence("Promise 42, what stood behind the LENGTH does not count");
        Rootrows x = new Rootrows();
        for (int row = 0; row < 4; row++) {
            Check.put(x, row, Check.mixed(16, row));
            x.make(row, 2);
        }
        CHECK.same("checksum", x.checksum(), new Rootrows().checksum());
    }

    public static void main(String[] args) {
        backOfEdges();
        productOfEdges();
        plainOfEdges();
        shiftedByEdges();
        sumByEdges();
        againRange();
        againOfEdges();
        againByValues();
        ownOfEdges();
        inverseOfEdges();
        inverseWithValueZero();
        soundWhole();
        theoremUnlike();
        checksumOfNew();
        checksumGoesRound();
        checksumEachNumber();
        checksumBehindTheLength();
        CHECK.end();
    }
}
