import java.util.Arrays;
import java.util.function.Consumer;

/**
 * The theorem as it is told of java.util.Arrays and java.lang.Long: rows are long[] as Arrays.copyOf() and
 * Arrays.fill() make them, rows are alike if Arrays.equals() tells so, and each sum, difference and product is what
 * Long.remainderUnsigned() by 65537 leaves of it, a difference with 65537 added ahead. What the class answers is
 * measured by these rows.
 */
final class JdkTest {
    private static final Check CHECK = new Check();
    private static final long P = 65537;

    /** Two rows of as many numbers, and the ROOT w of that many. */
    private record Given(int odd, long w, long[] a, long[] b) {
        int n() {
            return a.length;
        }
    }

    private static void each(Consumer<Given> test) {
        for (int odd = 1; odd <= 31; odd += 2) {
            for (int n : Check.LENGTHS) {
                for (long[] a : rows(n)) {
                    for (long[] b : rows(n)) {
                        test.accept(new Given(odd, power(2, odd * 32 / n), a, b));
                    }
                }
            }
        }
    }

    /** Rows of 0, of 65536, of one number at place 0, of numbers that come again, and of mixed ones. */
    private static long[][] rows(int n) {
        long[] greatest = Arrays.copyOf(new long[0], n);
        Arrays.fill(greatest, P - 1);
        long[] again = Arrays.copyOf(new long[0], n);
        Arrays.fill(again, n / 2, n, 5);
        Arrays.fill(again, 0, n / 2, 5);
        again[0] = 7;
        again[n / 2] = 7;
        long[] mixed = Arrays.copyOf(new long[0], n);
        for (int i = 0; i < n; i++) {
            mixed[i] = product(i + 11, i * 4099 + 60000);
        }
        return new long[][] {Arrays.copyOf(new long[0], n), greatest, Arrays.copyOf(new long[] {P - 2}, n), again, mixed};
    }

    private static long sum(long a, long b) {
        return Long.remainderUnsigned(a + b, P);
    }

    private static long difference(long a, long b) {
        return Long.remainderUnsigned(a + P - b, P);
    }

    private static long product(long a, long b) {
        return Long.remainderUnsigned(a * b, P);
    }

    private static long power(long w, int exponent) {
        long power = 1;
        for (int i = 0; i < exponent; i++) {
            power = product(power, w);
        }
        return power;
    }

    /** By Fermat, as 65537 is a prime number. */
    private static long inverse(long a) {
        long inverse = 1;
        for (int bit = 0; bit < 16; bit++) {
            inverse = product(product(inverse, inverse), a);
        }
        return inverse;
    }

    private static long[] values(long[] a, long w) {
        int n = a.length;
        long[] values = Arrays.copyOf(new long[0], n);
        for (int j = 0; j < n; j++) {
            for (int i = 0; i < n; i++) {
                values[j] = sum(values[j], product(a[i], power(w, i * j % n)));
            }
        }
        return values;
    }

    private static long[] second(long[] a, int first) {
        long[] half = Arrays.copyOf(a, a.length / 2);
        for (int i = 0; i < half.length; i++) {
            half[i] = a[2 * i + first];
        }
        return half;
    }

    private static long[] halved(long[] a, long w) {
        int half = a.length / 2;
        if (half == 0) {
            return Arrays.copyOf(a, 1);
        }
        long[] even = halved(second(a, 0), product(w, w));
        long[] odd = halved(second(a, 1), product(w, w));
        long[] values = Arrays.copyOf(a, a.length);
        for (int j = 0; j < half; j++) {
            long turned = product(power(w, j), odd[j]);
            values[j] = sum(even[j], turned);
            values[j + half] = difference(even[j], turned);
        }
        return values;
    }

    /** The inverse of w is w to the power of - 1. */
    private static long[] back(long[] b, long w) {
        return scaled(values(b, inverse(w)), inverse(b.length));
    }

    private static long[] scaled(long[] a, long by) {
        long[] scaled = Arrays.copyOf(a, a.length);
        for (int i = 0; i < a.length; i++) {
            scaled[i] = product(a[i], by);
        }
        return scaled;
    }

    private static long[] turned(long[] a) {
        long[] turned = Arrays.copyOf(a, a.length);
        for (int i = 1; i < a.length; i++) {
            turned[a.length - i] = a[i];
        }
        return turned;
    }

    private static long[] sums(long[] a, long[] b) {
        long[] sums = Arrays.copyOf(a, a.length);
        for (int i = 0; i < a.length; i++) {
            sums[i] = sum(a[i], b[i]);
        }
        return sums;
    }

    private static long[] differences(long[] a, long[] b) {
        long[] differences = Arrays.copyOf(a, a.length);
        for (int i = 0; i < a.length; i++) {
            differences[i] = difference(a[i], b[i]);
        }
        return differences;
    }

    private static long[] products(long[] a, long[] b) {
        long[] products = Arrays.copyOf(a, a.length);
        for (int i = 0; i < a.length; i++) {
            products[i] = product(a[i], b[i]);
        }
        return products;
    }

    private static long together(long[] a) {
        long together = 0;
        for (long number : a) {
            together = sum(together, number);
        }
        return together;
    }

    private static long[] ring(long[] a, long[] b) {
        int n = a.length;
        long[] ring = Arrays.copyOf(new long[0], n);
        for (int i = 0; i < n; i++) {
            for (int j = 0; j < n; j++) {
                ring[(i + j) % n] = sum(ring[(i + j) % n], product(a[i], b[j]));
            }
        }
        return ring;
    }

    private static long[] plain(long[] a, long[] b) {
        long[] plain = Arrays.copyOf(new long[0], 2 * a.length);
        for (int i = 0; i < a.length; i++) {
            for (int j = 0; j < b.length; j++) {
                plain[i + j] = sum(plain[i + j], product(a[i], b[j]));
            }
        }
        return plain;
    }

    private static long[] shifted(long[] a, int by) {
        long[] shifted = Arrays.copyOf(a, a.length);
        for (int i = 0; i < a.length; i++) {
            shifted[Math.floorMod(i + by, a.length)] = a[i];
        }
        return shifted;
    }

    private static long[] weighed(long[] a, long w, int by) {
        long[] weighed = Arrays.copyOf(a, a.length);
        for (int i = 0; i < a.length; i++) {
            weighed[i] = product(a[i], power(w, Math.floorMod(by * i, a.length)));
        }
        return weighed;
    }

    private static long[] repeated(long[] a, int after) {
        long[] repeated = Arrays.copyOf(a, a.length);
        for (int i = 0; i < a.length; i++) {
            repeated[i] = a[i % after];
        }
        return repeated;
    }

    private static long[] own(long[] a, long w) {
        long[] e = sums(a, turned(a));
        return sums(values(e, w), scaled(e, ownScale(a.length)));
    }

    private static long ownScale(int n) {
        return n == 2 ? 4080 : n == 4 ? 2 : n == 8 ? 8160 : 4;
    }

    /** An object with these rows: the first one in row 0, the second one in row 1. */
    private static Rootrows with(int odd, long[]... rows) {
        Rootrows x = new Rootrows();
        x.useOdd(odd);
        for (int row = 0; row < rows.length; row++) {
            x.make(row, rows[row].length);
            for (int i = 0; i < rows[row].length; i++) {
                x.set(row, i, (int) rows[row][i]);
            }
        }
        return x;
    }

    private static void alike(String what, long[] got, long[] due) {
        if (!Arrays.equals(got, due)) {
            CHECK.same(what, Arrays.toString(got), Arrays.toString(due));
        }
    }

    /** Row 0 of the object. */
    private static void rowIs(String what, Rootrows x, long[] due) {
        long[] got = Arrays.copyOf(new long[0], x.length(0));
        for (int i = 0; i < got.length; i++) {
            got[i] = x.number(0, i);
        }
        alike(what, got, due);
    }

    private static void halving(Given it) {
        long[] values = values(it.a, it.w);
        alike("(1)", halved(it.a, it.w), values);
        for (boolean isHalved : new boolean[] {false, true}) {
            Rootrows x = with(it.odd, it.a);
            x.values(0, isHalved);
            rowIs("values", x, values);
        }
        CHECK.same("isBack", with(it.odd, it.a).isBack(0), true);
    }

    private static void backRow(Given it) {
        alike("(2), of the VALUES", back(values(it.a, it.w), it.w), it.a);
        alike("(2), of the BACK row", values(back(it.a, it.w), it.w), it.a);
        Rootrows x = with(it.odd, it.a);
        x.back(0);
        rowIs("back", x, back(it.a, it.w));
    }

    private static void valuesTwice(Given it) {
        long[] due = scaled(turned(it.a), it.n());
        alike("(3)", values(values(it.a, it.w), it.w), due);
        Rootrows x = with(it.odd, it.a);
        x.turnRound(0);
        x.multiply(0, it.n());
        rowIs("turned round, times n", x, due);
    }

    private static void ringProduct(Given it) {
        long[] ring = ring(it.a, it.b);
        long[] products = products(values(it.a, it.w), values(it.b, it.w));
        alike("(4), the VALUES", values(ring, it.w), products);
        alike("(4), the BACK row", back(products, it.w), ring);
        for (boolean isByValues : new boolean[] {false, true}) {
            Rootrows x = with(it.odd, it.a, it.b);
            x.times(0, 1, isByValues);
            rowIs("times", x, ring);
        }
        CHECK.same("isProduct", with(it.odd, it.a, it.b).isProduct(0, 1), true);
    }

    private static void plainProduct(Given it) {
        if (it.n() == 16) {
            return;
        }
        long[] plain = plain(it.a, it.b);
        alike("(5)", ring(Arrays.copyOf(it.a, 2 * it.n()), Arrays.copyOf(it.b, 2 * it.n())), plain);
        CHECK.same("(5), the last number", plain[2 * it.n() - 1], 0);
        Rootrows x = with(it.odd, it.a, it.b);
        CHECK.same("isPlain", x.isPlain(0, 1), true);
        x.plainTimes(0, 1);
        rowIs("plainTimes", x, plain);
    }

    private static void shiftedAndWeighed(Given it) {
        for (int by : new int[] {-17, -1, 0, 1, 5, 16}) {
            alike("(6), shifted", values(shifted(it.a, by), it.w), weighed(values(it.a, it.w), it.w, by));
            alike("(6), weighed", values(weighed(it.a, it.w, by), it.w), shifted(values(it.a, it.w), -by));
            Rootrows x = with(it.odd, it.a);
            CHECK.same("isShifted", x.isShifted(0, by), true);
            x.shift(0, by);
            rowIs("shift", x, shifted(it.a, by));
            x = with(it.odd, it.a);
            x.weigh(0, by);
            rowIs("weigh", x, weighed(it.a, it.w, by));
        }
    }

    private static void sumsOfProducts(Given it) {
        long backwards = together(products(it.a, turned(it.b)));
        long ofValues = together(products(values(it.a, it.w), values(it.b, it.w)));
        CHECK.same("(7)", product(it.n(), backwards), ofValues);
        Rootrows x = with(it.odd, it.a, it.b);
        CHECK.same("sum back", x.sum(0, 1, true), backwards);
        CHECK.same("sum", x.sum(0, 1, false), together(products(it.a, it.b)));
    }

    private static void placeByPlace(Given it) {
        alike("(8), sums", values(sums(it.a, it.b), it.w), sums(values(it.a, it.w), values(it.b, it.w)));
        alike("(8), multiplied", values(scaled(it.a, P - 3), it.w), scaled(values(it.a, it.w), P - 3));
        CHECK.same("isSum", with(it.odd, it.a, it.b).isSum(0, 1, (int) P - 3), true);
        combined(it, '+', sums(it.a, it.b));
        combined(it, '-', differences(it.a, it.b));
        combined(it, '*', products(it.a, it.b));
        Rootrows x = with(it.odd, it.a);
        x.multiply(0, (int) P - 3);
        rowIs("multiply", x, scaled(it.a, P - 3));
    }

    private static void combined(Given it, char how, long[] due) {
        Rootrows x = with(it.odd, it.a, it.b);
        x.combine(0, 1, how);
        rowIs("combine " + how, x, due);
    }

    private static void comesAgain(Given it) {
        for (int after = 1; after <= it.n(); after *= 2) {
            long[] row = repeated(it.a, after);
            Rootrows x = with(it.odd, it.a);
            x.repeat(0, after);
            rowIs("repeat", x, row);
            CHECK.same("isAgain", x.isAgain(0, after), true);
            int period = x.period(0);
            int support = x.support(0);
            for (int d = 1; d <= it.n(); d *= 2) {
                boolean isAgain = Arrays.equals(shifted(row, -d), row);
                CHECK.same("(9)", isZeroOff(values(row, it.w), it.n() / d), isAgain);
                CHECK.same("period is at most " + d, period <= d, isAgain);
                CHECK.same("support off the multiples", (support & ~multiples(it.n(), it.n() / d)) == 0, isAgain);
            }
        }
    }

    private static boolean isZeroOff(long[] values, int step) {
        for (int j = 0; j < values.length; j++) {
            if (j % step != 0 && values[j] != 0) {
                return false;
            }
        }
        return true;
    }

    private static int multiples(int n, int step) {
        int places = 0;
        for (int j = 0; j < n; j += step) {
            places |= 1 << j;
        }
        return places;
    }

    private static void ownRow(Given it) {
        long s = ownScale(it.n());
        long[] own = own(it.a, it.w);
        CHECK.same("s times s", product(s, s), it.n());
        alike("(10)", values(own, it.w), scaled(own, s));
        Rootrows x = with(it.odd, it.a);
        CHECK.same("isOwn", x.isOwn(0), true);
        x.own(0);
        rowIs("own", x, own);
        x.values(0, false);
        rowIs("the VALUES of the OWN row", x, scaled(own, s));
    }

    private static void inverseRow(Given it) {
        long[] inverses = values(it.a, it.w);
        Rootrows x = with(it.odd, it.a);
        CHECK.same("isInverse", x.isInverse(0), true);
        for (int j = 0; j < inverses.length; j++) {
            if (inverses[j] == 0) {
                CHECK.refuses("invert", x, Check.STATE, () -> x.invert(0));
                return;
            }
            inverses[j] = inverse(inverses[j]);
        }
        long[] inverse = back(inverses, it.w);
        alike("(11)", ring(it.a, inverse), Arrays.copyOf(new long[] {1}, it.n()));
        x.invert(0);
        rowIs("invert", x, inverse);
    }

    public static void main(String[] args) {
        CHECK.sentence("THEOREM (of java.util.Arrays and java.lang.Long)");
        each(JdkTest::halving);
        each(JdkTest::backRow);
        each(JdkTest::valuesTwice);
        each(JdkTest::ringProduct);
        each(JdkTest::plainProduct);
        each(JdkTest::shiftedAndWeighed);
        each(JdkTest::sumsOfProducts);
        each(JdkTest::placeByPlace);
        each(JdkTest::comesAgain);
        each(JdkTest::ownRow);
        each(JdkTest::inverseRow);
        CHECK.end();
    }
}
