import java.math.BigInteger;

/** What the document names as edges of products and digits: the sentences of part 3 and of promises 15 to 20. */
final class ProductEdgesTest {
    private static final Check CHECK = new Check();
    private static final boolean[] WAYS = {false, true};

    private static void timesPlaces() {
        CHECK.sentence("Part 2, all a(i) times b(j) for which i + j is k or k + n");
        for (boolean isByValues : WAYS) {
            for (int n : Check.LENGTHS) {
                for (int i = 0; i < n; i++) {
                    for (int j = 0; j < n; j++) {
                        Rootrows x = Check.with(Check.only(n, i, 65536));
                        Check.put(x, 3, Check.only(n, j, 2));
                        CHECK.same("how many are 0", x.times(0, 3, isByValues), n - 1);
                        CHECK.row("place " + i + " and " + j, x, 0, Check.only(n, (i + j) % n, 65535));
                        CHECK.row("the other", x, 3, Check.only(n, j, 2));
                    }
                }
            }
        }
    }

    private static void timesZeros() {
        CHECK.sentence("Promise 15, rows of zeros; returns how many of its numbers are 0");
        for (boolean isByValues : WAYS) {
            for (int n : Check.LENGTHS) {
                Rootrows x = Check.with(Check.mixed(n, 1));
                Check.put(x, 1, new int[n]);
                CHECK.same("zeros times a row", x.times(1, 0, isByValues), n);
                CHECK.row("zeros times a row", x, 1, new int[n]);
                CHECK.same("a row times zeros", x.times(0, 1, isByValues), n);
                CHECK.row("a row times zeros", x, 0, new int[n]);
                CHECK.same("zeros times themselves", x.times(0, 0, isByValues), n);
            }
        }
    }

    private static void timesGreatest() {
        CHECK.sentence("Promise 15, 65536 at all places, with a row alike and with itself");
        for (boolean isByValues : WAYS) {
            for (int n : Check.LENGTHS) {
                Rootrows x = Check.with(Check.all(n, 65536));
                x.copy(0, 2);
                CHECK.same("with a row alike", x.times(2, 0, isByValues), 0);
                CHECK.row("with a row alike", x, 2, Check.all(n, n));
                CHECK.same("with itself", x.times(0, 0, isByValues), 0);
                CHECK.row("with itself", x, 0, Check.all(n, n));
            }
        }
    }

    private static void timesItself() {
        CHECK.sentence("Promise 15, or itself once more; all is read ahead of what is written");
        for (boolean isByValues : WAYS) {
            for (int n : Check.LENGTHS) {
                Rootrows x = Check.with(Check.mixed(n, 4));
                x.copy(0, 1);
                x.copy(0, 2);
                CHECK.same("how many are 0", x.times(0, 0, isByValues), x.times(1, 2, isByValues));
                CHECK.row("times itself", x, 0, Check.numbers(x, 1));
            }
        }
    }

    private static void timesBothAlike() {
        CHECK.sentence("Promise 15, isByValues: both are alike");
        for (int odd = 1; odd <= 31; odd += 2) {
            for (int n : Check.LENGTHS) {
                Rootrows x = Check.with(Check.mixed(n, odd));
                x.useOdd(odd);
                Check.put(x, 1, Check.mixed(n, odd + 1));
                x.copy(0, 2);
                CHECK.same("how many are 0", x.times(0, 1, true), x.times(2, 1, false));
                CHECK.row("by values", x, 0, Check.numbers(x, 2));
            }
        }
    }

    private static void timesUnlike() {
        CHECK.sentence("Promise 15, throws IllegalStateException if their LENGTHS are unlike");
        for (boolean isByValues : WAYS) {
            for (int n : Check.LENGTHS) {
                for (int m : Check.LENGTHS) {
                    Rootrows x = Check.with(Check.ramp(n));
                    Check.put(x, 3, Check.ramp(m));
                    if (n == m) {
                        CHECK.allows("times", () -> x.times(0, 3, isByValues));
                    } else {
                        CHECK.refuses("times", x, Check.STATE, () -> x.times(0, 3, isByValues));
                    }
                }
            }
        }
    }

    private static void plainPlaces() {
        CHECK.sentence("Part 2, the PLAIN PRODUCT has 2 n numbers: all a(i) times b(j) for which i + j is k");
        for (int n : new int[] {2, 4, 8}) {
            for (int i = 0; i < n; i++) {
                for (int j = 0; j < n; j++) {
                    Rootrows x = Check.with(Check.only(n, i, 65536));
                    Check.put(x, 3, Check.only(n, j, 2));
                    CHECK.same("how many are 0", x.plainTimes(0, 3), 2 * n - 1);
                    CHECK.row("place " + i + " and " + j, x, 0, Check.only(2 * n, i + j, 65535));
                    CHECK.row("the other", x, 3, Check.only(n, j, 2));
                }
            }
        }
    }

    private static void plainLastNumber() {
        CHECK.sentence("(5), the PLAIN PRODUCT's last number is 0");
        for (int n : new int[] {2, 4, 8}) {
            Rootrows x = Check.with(Check.all(n, 65536));
            Check.put(x, 1, Check.all(n, 65536));
            CHECK.same("how many are 0", x.plainTimes(0, 1), 1);
            CHECK.same("the LENGTH", x.length(0), 2 * n);
            CHECK.same("the first", x.number(0, 0), 1);
            CHECK.same("the greatest", x.number(0, n - 1), n);
            CHECK.same("the last but one", x.number(0, 2 * n - 2), 1);
            CHECK.same("the last", x.number(0, 2 * n - 1), 0);
        }
    }

    private static void plainItself() {
        CHECK.sentence("Promise 16, or itself once more; its LENGTH is twice what it was then");
        for (int n : new int[] {2, 4, 8}) {
            Rootrows x = Check.with(Check.all(n, 1));
            CHECK.same("how many are 0", x.plainTimes(0, 0), 1);
            int[] due = new int[2 * n];
            for (int k = 0; k < 2 * n - 1; k++) {
                due[k] = k < n ? k + 1 : 2 * n - 1 - k;
            }
            CHECK.row("times itself", x, 0, due);
        }
    }

    private static void plainZeros() {
        CHECK.sentence("Promise 16, rows of zeros; returns how many of its numbers are 0");
        for (int n : new int[] {2, 4, 8}) {
            Rootrows x = Check.with(new int[n]);
            CHECK.same("how many are 0", x.plainTimes(0, 0), 2 * n);
            CHECK.row("zeros", x, 0, new int[2 * n]);
        }
    }

    private static void plainAfterLonger() {
        CHECK.sentence("Promise 16, what stood behind the LENGTH does not count");
        Rootrows x = Check.with(Check.all(16, 65536));
        Check.put(x, 1, Check.all(16, 65536));
        Check.put(x, 0, 3, 4);
        Check.put(x, 1, 5, 6);
        CHECK.same("how many are 0", x.plainTimes(0, 1), 1);
        CHECK.row("3, 4 times 5, 6", x, 0, 15, 38, 24, 0);
        x.make(2, 16);
        x.make(3, 16);
        x.fill(3, 0, 65536);
        x.combine(2, 3, '+');
        for (int row = 0; row < 2; row++) {
            Check.put(x, row, Check.ramp(8));
            CHECK.same("ramps by 1", x.multiply(row, 1), 0);
        }
        CHECK.same("how many are 0", x.plainTimes(0, 1), 1);
        CHECK.row("ramps", x, 0, 1, 4, 10, 20, 35, 56, 84, 120, 147, 164, 170, 164, 145, 112, 64, 0);
    }

    private static void plainUnlikeOrSixteen() {
        CHECK.sentence("Promise 16, throws IllegalStateException if their LENGTHS are unlike, or are 16");
        for (int n : Check.LENGTHS) {
            for (int m : Check.LENGTHS) {
                Rootrows x = Check.with(Check.ramp(n));
                Check.put(x, 3, Check.ramp(m));
                if (n == m && n < 16) {
                    CHECK.allows("plainTimes", () -> x.plainTimes(0, 3));
                } else {
                    CHECK.refuses("plainTimes", x, Check.STATE, () -> x.plainTimes(0, 3));
                }
            }
        }
        Rootrows x = Check.with(Check.ramp(16));
        CHECK.refuses("plainTimes with itself", x, Check.STATE, () -> x.plainTimes(0, 0));
    }

    private static void invertOneValueZero() {
        CHECK.sentence("Promise 17, throws IllegalStateException if one of its VALUES is 0");
        for (int n : Check.LENGTHS) {
            for (int place = 0; place < n; place++) {
                int[] values = Check.mixed(n, 6);
                values[place] = 0;
                Rootrows x = Check.with(values);
                x.back(0);
                CHECK.refuses("value " + place + " is 0", x, Check.STATE, () -> x.invert(0));
            }
            Rootrows zeros = Check.with(new int[n]);
            CHECK.refuses("zeros", zeros, Check.STATE, () -> zeros.invert(0));
            Rootrows alike = Check.with(Check.all(n, 65536));
            CHECK.refuses("all alike", alike, Check.STATE, () -> alike.invert(0));
        }
    }

    private static void invertOnePlace() {
        CHECK.sentence("Promise 17, one place alone; returns its number at place 0 then");
        for (int n : Check.LENGTHS) {
            for (int place = 0; place < n; place++) {
                Rootrows x = Check.with(Check.only(n, place, 65536));
                CHECK.same("the number at place 0", x.invert(0), place == 0 ? 65536 : 0);
                CHECK.row("inverted", x, 0, Check.only(n, (n - place) % n, 65536));
                x = Check.with(Check.only(n, place, 2));
                CHECK.same("the number at place 0", x.invert(0), place == 0 ? 32769 : 0);
                CHECK.row("inverted", x, 0, Check.only(n, (n - place) % n, 32769));
            }
        }
    }

    private static void invertTimes() {
        CHECK.sentence("Promise 17, the one whose RING PRODUCT with it is 1 at place 0 and 0 at all others");
        for (int odd = 1; odd <= 31; odd += 2) {
            for (int n : Check.LENGTHS) {
                int[] values = Check.mixed(n, 2 * odd);
                for (int j = 0; j < n; j++) {
                    values[j] = values[j] == 0 ? 1 : values[j];
                }
                values[n - 1] = 65536;
                Rootrows x = Check.with(values);
                x.useOdd(odd);
                x.back(0);
                x.copy(0, 1);
                CHECK.same("invert", x.invert(0), x.number(0, 0));
                CHECK.same("how many are 0", x.times(0, 1, false), n - 1);
                CHECK.row("times it", x, 0, Check.only(n, 0, 1));
            }
        }
    }

    private static void invertEachNumber() {
        CHECK.sentence("Part 1, 65537 is a prime number: so each number but 0 has one that times it is 1");
        for (int number = 1; number <= 65536; number++) {
            Rootrows x = Check.with(number, 0);
            int inverse = x.invert(0);
            CHECK.same(number + " times " + inverse, Check.reduced((long) number * inverse), 1);
        }
    }

    private static BigInteger unsigned(int number) {
        return BigInteger.valueOf(number & 0xffffffffL);
    }

    private static void productEdges() {
        CHECK.sentence("Promise 18, a number from 0 to 4294967295: below 0 it is taken with 4294967296 added");
        int[] numbers = {0, 1, 2, 15, 16, 0xff, 0x100, 0xffff, 0x10000, 0xfffffff, 0x10000000, Integer.MAX_VALUE - 1,
            Integer.MAX_VALUE, Integer.MIN_VALUE, Integer.MIN_VALUE + 1, 0xf0000000, 0x0f0f0f0f, 0xf0f0f0f0, -16, -2, -1};
        for (int one : numbers) {
            for (int other : numbers) {
                Rootrows x = Check.with(Check.mixed(16, 3));
                long due = unsigned(one).multiply(unsigned(other)).longValue();
                CHECK.leaves("product", x,
                        () -> CHECK.same("product(" + one + ", " + other + ")", x.product(one, other), due));
            }
        }
    }

    private static void productAtTheSign() {
        CHECK.sentence("Promise 18, less 2 to the power of 64 if it is 2 to the power of 63 or more");
        Rootrows x = new Rootrows();
        // 2 to the power of 63 less 1, and the least product of two such numbers that is more.
        CHECK.same("the greatest below", x.product((int) 4042815511L, (int) 2281422937L), Long.MAX_VALUE);
        CHECK.same("the least above", x.product((int) 2147549185L, (int) 4294836226L), Long.MIN_VALUE + 2);
        CHECK.same("2 to the power of 62", x.product(Integer.MIN_VALUE, Integer.MIN_VALUE), 1L << 62);
        CHECK.same("the greatest", x.product(-1, -1), -8589934591L);
    }

    private static void productByAnyRows() {
        CHECK.sentence("Promise 18, whatever the rows and ODD are");
        for (int n : Check.LENGTHS) {
            Rootrows x = new Rootrows();
            x.useOdd(31);
            for (int row = 0; row < 4; row++) {
                Check.put(x, row, Check.mixed(n, row));
            }
            CHECK.leaves("product", x, () -> CHECK.same("product", x.product(-1, 12345), 4294967295L * 12345));
        }
    }

    private static void digits(Rootrows x, int number, int notZero, int... low) {
        int[] due = new int[16];
        System.arraycopy(low, 0, due, 0, low.length);
        CHECK.same("digits of " + number, x.digits(3, number), notZero);
        CHECK.row("digits of " + number, x, 3, due);
    }

    private static void digitsEdges() {
        CHECK.sentence("Promise 19, number: from 0 to 4294967295; returns how many are other than 0");
        Rootrows x = new Rootrows();
        Check.put(x, 3, Check.all(16, 65536));
        digits(x, 0, 0);
        digits(x, 1, 1, 1);
        digits(x, 15, 1, 15);
        digits(x, 16, 1, 0, 1);
        digits(x, 17, 2, 1, 1);
        digits(x, Integer.MAX_VALUE, 8, 15, 15, 15, 15, 15, 15, 15, 7);
        digits(x, Integer.MIN_VALUE, 1, 0, 0, 0, 0, 0, 0, 0, 8);
        digits(x, Integer.MIN_VALUE + 1, 2, 1, 0, 0, 0, 0, 0, 0, 8);
        digits(x, -1, 8, 15, 15, 15, 15, 15, 15, 15, 15);
        digits(x, -16, 7, 0, 15, 15, 15, 15, 15, 15, 15);
        digits(x, 0x76543210, 7, 0, 1, 2, 3, 4, 5, 6, 7);
    }

    private static void digitsLength() {
        CHECK.sentence("Promise 19, its LENGTH is 16 then; from place 8 on all are 0");
        for (int n : Check.LENGTHS) {
            for (int row = 0; row < 4; row++) {
                Rootrows x = new Rootrows();
                Check.put(x, row, Check.all(n, 65536));
                CHECK.same("digits", x.digits(row, -1), 8);
                CHECK.same("the LENGTH", x.length(row), 16);
                for (int k = 0; k < 16; k++) {
                    CHECK.same("place " + k, x.number(row, k), k < 8 ? 15 : 0);
                }
            }
        }
    }

    private static void digitsTimes() {
        CHECK.sentence("Part 3, no number of it is above 1800");
        Rootrows x = new Rootrows();
        x.digits(0, -1);
        x.times(0, 0, false);
        CHECK.same("the greatest", x.number(0, 7), 1800);
        CHECK.same("the last but one", x.number(0, 14), 225);
        CHECK.same("the last", x.number(0, 15), 0);
        CHECK.same("told", x.told(0), -8589934591L);
    }

    private static void productByDigits() {
        CHECK.sentence("Part 3, the RING PRODUCT's number at each place k times 16 to the power of k, added up");
        int[] numbers = {0, 1, 15, 16, 0x10000000, 0x0f0f0f0f, 0x12345678, Integer.MAX_VALUE, Integer.MIN_VALUE, -16, -1};
        for (int one : numbers) {
            for (int other : numbers) {
                for (boolean isByValues : WAYS) {
                    Rootrows x = new Rootrows();
                    x.digits(0, one);
                    x.digits(1, other);
                    x.times(0, 1, isByValues);
                    CHECK.same("told of " + one + " times " + other, x.told(0), x.product(one, other));
                    for (int number : Check.numbers(x, 0)) {
                        CHECK.same(number + " is above 1800", number > 1800, false);
                    }
                }
            }
        }
    }

    private static void toldEachPlace() {
        CHECK.sentence("Promise 20, each times 16 to the power of its place, as a long that goes round");
        for (int n : Check.LENGTHS) {
            for (int place = 0; place < n; place++) {
                String what = "told of place " + place;
                for (int number : new int[] {0, 1, 7, 8, 15, 16, 65535, 65536}) {
                    Rootrows x = Check.with(Check.only(n, place, number));
                    long due = BigInteger.valueOf(number).shiftLeft(4 * place).longValue();
                    CHECK.leaves(what, x, () -> CHECK.same(what, x.told(0), due));
                }
            }
        }
    }

    private static void toldAddedUp() {
        CHECK.sentence("Promise 20, together, also those above 15");
        for (int n : Check.LENGTHS) {
            BigInteger due = BigInteger.ZERO;
            for (int place = 0; place < n; place++) {
                due = due.add(BigInteger.valueOf(65536).shiftLeft(4 * place));
            }
            CHECK.same("told of 65536", Check.with(Check.all(n, 65536)).told(0), due.longValue());
            CHECK.same("told of zeros", Check.with(new int[n]).told(0), 0);
        }
        CHECK.same("told of 15", Check.with(Check.all(16, 15)).told(0), -1);
    }

    private static void toldOfDigits() {
        CHECK.sentence("Promise 20, what the DIGITS of a number tell");
        Rootrows x = new Rootrows();
        for (int number : new int[] {0, 1, Integer.MAX_VALUE, Integer.MIN_VALUE, -1}) {
            x.digits(2, number);
            CHECK.same("told of " + number, x.told(2), number & 0xffffffffL);
        }
    }

    public static void main(String[] args) {
        timesPlaces();
        timesZeros();
        timesGreatest();
        timesItself();
        timesBothAlike();
        timesUnlike();
        plainPlaces();
        plainLastNumber();
        plainItself();
        plainZeros();
        plainAfterLonger();
        plainUnlikeOrSixteen();
        invertOneValueZero();
        invertOnePlace();
        invertTimes();
        invertEachNumber();
        productEdges();
        productAtTheSign();
        productByAnyRows();
        digitsEdges();
        digitsLength();
        digitsTimes();
        productByDigits();
        toldEachPlace();
        toldAddedUp();
        toldOfDigits();
        CHECK.end();
    }
}
