import java.util.Arrays;

/**
 * The theorem's sentences (1) to (8) and (11), asked of the face itself instead of by its is-methods: of the least and
 * the greatest LENGTH, of numbers below 0, and of rows with 0 and 65536 at their ends.
 */
final class SentencesTest {
    private static final Check CHECK = new Check();
    private static final int[] BYS = {Integer.MIN_VALUE, Integer.MIN_VALUE + 1, -17, -16, -3, -1, 0, 1, 3, 15, 16, 17,
        Integer.MAX_VALUE - 1, Integer.MAX_VALUE};

    /** A test of an object in whose rows 0 and 1 stand mixed rows of n numbers, with 0 and 65536 at their ends. */
    private interface Test {
        void of(Rootrows x, int n);
    }

    private static void each(Test test) {
        for (int odd = 1; odd <= 31; odd += 2) {
            for (int n : Check.LENGTHS) {
                int[] one = Check.mixed(n, 2 * odd);
                one[0] = 0;
                one[n - 1] = 65536;
                int[] other = Check.mixed(n, 2 * odd + 1);
                other[0] = 65536;
                Rootrows x = Check.with(one);
                Check.put(x, 1, other);
                x.useOdd(odd);
                test.of(x, n);
            }
        }
    }

    /** The numbers at every second place. */
    private static int[] half(int[] row, int first) {
        int[] half = new int[row.length / 2];
        for (int i = 0; i < half.length; i++) {
            half[i] = row[2 * i + first];
        }
        return half;
    }

    /** The VALUES; a row of one number, which no row of an object can be, is its own VALUES. */
    private static int[] values(Rootrows x, int[] row) {
        if (row.length == 1) {
            return row;
        }
        Check.put(x, 3, row);
        x.values(3, false);
        return Check.numbers(x, 3);
    }

    private static void halving() {
        CHECK.sentence("(1), the value j is E(j) + w^j O(j), the value j + n / 2 is E(j) - w^j O(j)");
        each((x, n) -> {
            int[] row = Check.numbers(x, 0);
            int[] even = values(x, half(row, 0));
            int[] odd = values(x, half(row, 1));
            for (boolean isHalved : new boolean[] {false, true}) {
                x.copy(0, 2);
                x.values(2, isHalved);
                for (int j = 0; j < n / 2; j++) {
                    long turned = (long) odd[j] * x.power(n, j);
                    CHECK.same("value " + j, x.number(2, j), Check.reduced(even[j] + turned));
                    CHECK.same("value " + (j + n / 2), x.number(2, j + n / 2), Check.reduced(even[j] - turned));
                }
            }
        });
    }

    private static void backOfValues() {
        CHECK.sentence("(2), the BACK row of the VALUES of a is a, and the VALUES of the BACK row are a");
        each((x, n) -> {
            for (boolean isHalved : new boolean[] {false, true}) {
                x.copy(0, 2);
                x.values(2, isHalved);
                x.back(2);
                CHECK.row("back of values", x, 2, Check.numbers(x, 0));
                x.back(2);
                x.values(2, isHalved);
                CHECK.row("values of back", x, 2, Check.numbers(x, 0));
            }
        });
    }

    private static void valuesOfValues() {
        CHECK.sentence("(3), the VALUES of the VALUES of a are a TURNED ROUND, each number times n");
        each((x, n) -> {
            x.copy(0, 2);
            x.values(2, true);
            x.values(2, true);
            x.turnRound(0);
            x.multiply(0, n);
            CHECK.row("values of values", x, 2, Check.numbers(x, 0));
        });
    }

    private static void ringProduct() {
        CHECK.sentence("(4), the VALUES of the RING PRODUCT are, place by place, the products of the VALUES");
        each((x, n) -> {
            x.copy(0, 2);
            x.times(2, 1, false);
            x.copy(2, 3);
            x.values(3, false);
            x.values(0, true);
            x.values(1, true);
            x.combine(0, 1, '*');
            CHECK.row("values of the product", x, 3, Check.numbers(x, 0));
            x.back(0);
            CHECK.row("back of the products", x, 0, Check.numbers(x, 2));
        });
    }

    private static void plainProduct() {
        CHECK.sentence("(5), the RING PRODUCT with 0 behind them is the PLAIN PRODUCT, whose last number is 0");
        each((x, n) -> {
            if (n == 16) {
                return;
            }
            int[] long0 = Arrays.copyOf(Check.numbers(x, 0), 2 * n);
            int[] long1 = Arrays.copyOf(Check.numbers(x, 1), 2 * n);
            x.plainTimes(0, 1);
            Check.put(x, 2, long0);
            Check.put(x, 3, long1);
            x.times(2, 3, false);
            CHECK.row("plain product", x, 0, Check.numbers(x, 2));
            CHECK.same("its last number", x.number(0, 2 * n - 1), 0);
        });
    }

    private static void shifted() {
        CHECK.sentence("(6), shifted by s, its value j becomes itself times w to the power of s j; s also below 0");
        for (int by : BYS) {
            each((x, n) -> {
                x.copy(0, 2);
                x.shift(2, by);
                x.values(2, false);
                x.values(0, false);
                for (int j = 0; j < n; j++) {
                    int exponent = (int) Math.floorMod((long) by * j, (long) n);
                    CHECK.same("value " + j + " by " + by, x.number(2, j),
                            Check.reduced((long) x.number(0, j) * x.power(n, exponent)));
                }
                x.weigh(0, by);
                CHECK.row("weighed by " + by, x, 0, Check.numbers(x, 2));
            });
        }
    }

    private static void weighed() {
        CHECK.sentence("(6), its value j becomes that which was at j + s, behind the last place from place 0 on again");
        for (int by : BYS) {
            each((x, n) -> {
                x.copy(0, 2);
                x.weigh(2, by);
                x.values(2, false);
                x.values(0, false);
                for (int j = 0; j < n; j++) {
                    int from = (int) Math.floorMod((long) j + by, (long) n);
                    CHECK.same("value " + j + " by " + by, x.number(2, j), x.number(0, from));
                }
            });
        }
    }

    private static void sumsOfProducts() {
        CHECK.sentence("(7), n times the sum of the products of a and b read backwards is that of their VALUES");
        each((x, n) -> {
            int due = Check.reduced((long) n * x.sum(0, 1, true));
            int itself = Check.reduced((long) n * x.sum(1, 1, true));
            x.values(0, false);
            x.values(1, false);
            CHECK.same("of two rows", x.sum(0, 1, false), due);
            CHECK.same("of one row", x.sum(1, 1, false), itself);
        });
    }

    private static void sums() {
        CHECK.sentence("(8), the VALUES of the sums are the sums of their VALUES");
        each((x, n) -> {
            x.copy(0, 2);
            x.combine(2, 1, '+');
            x.values(2, false);
            x.values(0, false);
            x.values(1, false);
            x.combine(0, 1, '+');
            CHECK.row("values of sums", x, 2, Check.numbers(x, 0));
        });
    }

    private static void multiplied() {
        CHECK.sentence("(8), those of a multiplied are the VALUES multiplied");
        for (int factor : new int[] {0, 1, 2, 65535, 65536}) {
            each((x, n) -> {
                x.copy(0, 2);
                x.multiply(2, factor);
                x.values(2, false);
                x.values(0, false);
                x.multiply(0, factor);
                CHECK.row("values by " + factor, x, 2, Check.numbers(x, 0));
            });
        }
    }

    private static void inverse() {
        CHECK.sentence("(11), the BACK row of the numbers that times the VALUES are 1, one by one");
        each((x, n) -> {
            if (Integer.bitCount(x.support(0)) < n) {
                return;
            }
            x.copy(0, 2);
            x.invert(2);
            x.values(2, false);
            x.values(0, false);
            x.combine(2, 0, '*');
            CHECK.row("the values' products", x, 2, Check.all(n, 1));
        });
    }

    public static void main(String[] args) {
        halving();
        backOfValues();
        valuesOfValues();
        ringProduct();
        plainProduct();
        shifted();
        weighed();
        sumsOfProducts();
        sums();
        multiplied();
        inverse();
        CHECK.end();
    }
}
