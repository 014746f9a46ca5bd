/** Promises 11 to 20: values and products. */
final class ValuesTest {
    private static final Check CHECK = new Check();

    private static void promise11Values() {
        for (boolean isHalved : new boolean[] {false, true}) {
            Rootrows x = Check.with(5, 5);
            CHECK.same("values of 5, 5", x.values(0, isHalved), 1);
            CHECK.row("values of 5, 5", x, 0, 10, 0);
            Check.put(x, 1, 1, 2, 3, 4);
            CHECK.same("values of 1, 2, 3, 4", x.values(1, isHalved), 0);
            CHECK.row("values of 1, 2, 3, 4", x, 1, 10, 65023, 65535, 510);
            x.useOdd(3);
            Check.put(x, 1, 1, 2, 3, 4);
            x.values(1, isHalved);
            CHECK.row("values of 1, 2, 3, 4 by 3", x, 1, 10, 510, 65535, 65023);
            x.useOdd(1);
            Check.put(x, 2, 0, 1, 0, 0, 0, 0, 0, 0);
            x.values(2, isHalved);
            CHECK.row("values of 1 at place 1", x, 2, 1, 16, 256, 4096, 65536, 65521, 65281, 61441);
            Check.put(x, 3, new int[16]);
            x.fill(3, 0, 65536);
            CHECK.same("values of 65536 everywhere", x.values(3, isHalved), 15);
            CHECK.same("their value 0", x.number(3, 0), 65537 - 16);
            CHECK.same("values of zeros", Check.with(0, 0, 0, 0).values(0, isHalved), 4);
            for (int row : Check.NO_ROWS) {
                CHECK.refuses("values of no row", x, Check.PLACE, () -> x.values(row, isHalved));
            }
        }
    }

    private static void promise11BothWays() {
        for (int odd = 1; odd <= 31; odd += 2) {
            for (int n : Check.LENGTHS) {
                Rootrows x = new Rootrows();
                x.useOdd(odd);
                x.make(0, n);
                for (int i = 0; i < n; i++) {
                    x.set(0, i, (i * i * 7919 + odd) % 65537);
                }
                x.copy(0, 1);
                x.copy(0, 2);
                CHECK.same("values both ways", x.values(1, true), x.values(2, false));
                CHECK.same("values are alike", x.copy(1, 2), false);
                for (int j = 0; j < n; j++) {
                    CHECK.same("value " + j, x.number(1, j), x.valueAt(0, x.power(n, j)));
                }
                x.back(1);
                CHECK.same("the back row is the row", x.copy(1, 0), false);
            }
        }
    }

    private static void promise12Back() {
        Rootrows x = Check.with(10, 65023, 65535, 510);
        CHECK.same("back", x.back(0), 0);
        CHECK.row("back", x, 0, 1, 2, 3, 4);
        Check.put(x, 1, 8, 0, 0, 0, 0, 0, 0, 0);
        CHECK.same("back of 8 at place 0", x.back(1), 0);
        CHECK.row("back of 8 at place 0", x, 1, 1, 1, 1, 1, 1, 1, 1, 1);
        Check.put(x, 1, 1, 1);
        CHECK.same("back of 1, 1", x.back(1), 1);
        CHECK.row("back of 1, 1", x, 1, 1, 0);
        for (int row : Check.NO_ROWS) {
            CHECK.refuses("back of no row", x, Check.PLACE, () -> x.back(row));
        }
    }

    private static void promise13ValueAt() {
        Rootrows x = Check.with(7, 2, 3, 65536);
        CHECK.same("valueAt(0, 0)", x.valueAt(0, 0), 7);
        CHECK.same("valueAt(0, 1)", x.valueAt(0, 1), 11);
        CHECK.same("valueAt(0, 2)", x.valueAt(0, 2), 7 + 4 + 12 - 8);
        CHECK.same("valueAt(0, 65536)", x.valueAt(0, 65536), 7 - 2 + 3 + 1);
        CHECK.row("after valueAt", x, 0, 7, 2, 3, 65536);
        for (int row : Check.NO_ROWS) {
            CHECK.refuses("valueAt of no row", x, Check.PLACE, () -> x.valueAt(row, -1));
        }
        for (int at : Check.FAR) {
            CHECK.refuses("valueAt " + at, x, Check.ARGUMENT, () -> x.valueAt(0, at));
        }
    }

    private static void promise14Support() {
        Rootrows x = Check.with(5, 5);
        CHECK.same("support of 5, 5", x.support(0), 1);
        CHECK.row("after support", x, 0, 5, 5);
        CHECK.same("support of 5, 65532", Check.with(5, 65532).support(0), 2);
        CHECK.same("support of 5, 0", Check.with(5, 0).support(0), 3);
        CHECK.same("support of zeros", Check.with(0, 0, 0, 0).support(0), 0);
        CHECK.same("support of 1, 0, 1, 0", Check.with(1, 0, 1, 0).support(0), 5);
        x.make(2, 16);
        x.set(2, 3, 1);
        CHECK.same("support of 1 at place 3", x.support(2), 65535);
        x.make(2, 16);
        x.set(2, 15, 1);
        x.back(2);
        CHECK.same("support of one place", x.support(2), 32768);
        for (int row : Check.NO_ROWS) {
            CHECK.refuses("support of no row", x, Check.PLACE, () -> x.support(row));
        }
    }

    private static void promise15Times() {
        for (boolean isByValues : new boolean[] {false, true}) {
            Rootrows x = Check.with(1, 2, 3, 4);
            Check.put(x, 1, 5, 0, 0, 6);
            CHECK.same("times", x.times(0, 1, isByValues), 0);
            CHECK.row("times", x, 0, 5 + 12, 10 + 18, 15 + 24, 20 + 6);
            CHECK.row("the other", x, 1, 5, 0, 0, 6);
            Check.put(x, 2, 1, 65536);
            CHECK.same("times itself", x.times(2, 2, isByValues), 0);
            CHECK.row("times itself", x, 2, 2, 65535);
            Check.put(x, 3, 1, 1);
            CHECK.same("times to 0", x.times(2, 3, isByValues), 2);
            CHECK.row("times to 0", x, 2, 0, 0);
            for (int row : Check.NO_ROWS) {
                CHECK.refuses("times of no row", x, Check.PLACE, () -> x.times(row, 0, isByValues));
                CHECK.refuses("times by no row", x, Check.PLACE, () -> x.times(0, row, isByValues));
            }
            CHECK.refuses("times unlike", x, Check.STATE, () -> x.times(0, 2, isByValues));
            x.make(1, 16);
            x.make(3, 16);
            x.fill(1, 0, 65536);
            x.fill(3, 0, 65535);
            x.times(1, 3, isByValues);
            CHECK.same("times of 16 places", x.number(1, 15), 32);
        }
    }

    private static void promise16PlainTimes() {
        Rootrows x = Check.with(1, 2);
        Check.put(x, 1, 5, 65536);
        CHECK.same("plainTimes", x.plainTimes(0, 1), 1);
        CHECK.row("plainTimes", x, 0, 5, 9, 65535, 0);
        CHECK.row("the other", x, 1, 5, 65536);
        CHECK.same("plainTimes itself", x.plainTimes(1, 1), 1);
        CHECK.row("plainTimes itself", x, 1, 25, 65527, 1, 0);
        CHECK.same("plainTimes of 4", x.plainTimes(0, 0), 3);
        CHECK.row("plainTimes of 4", x, 0, 25, 90, 61, 65501, 4, 0, 0, 0);
        CHECK.same("plainTimes of 8", x.plainTimes(0, 0), 7);
        CHECK.same("its length", x.length(0), 16);
        CHECK.same("its place 8", x.number(0, 8), 16);
        CHECK.same("plainTimes of zeros", x.plainTimes(2, 3), 4);
        CHECK.refuses("plainTimes of 16", x, Check.STATE, () -> x.plainTimes(0, 0));
        CHECK.refuses("plainTimes unlike", x, Check.STATE, () -> x.plainTimes(1, 3));
    }

    private static void promise16WrongRows() {
        for (int row : Check.NO_ROWS) {
            Rootrows x = Check.with(Check.ramp(16));
            CHECK.refuses("plainTimes of no row", x, Check.PLACE, () -> x.plainTimes(row, 0));
            CHECK.refuses("plainTimes by no row", x, Check.PLACE, () -> x.plainTimes(0, row));
        }
    }

    private static void promise17Invert() {
        Rootrows x = Check.with(0, 2);
        CHECK.same("invert 0, 2", x.invert(0), 0);
        CHECK.row("invert 0, 2", x, 0, 0, 32769);
        for (int n : Check.LENGTHS) {
            x.make(0, n);
            x.fill(0, 0, 3);
            x.set(0, 1, 65536);
            x.set(0, 0, 1000);
            x.copy(0, 1);
            CHECK.same("invert's answer", x.invert(1), x.number(1, 0));
            x.times(0, 1, false);
            int[] due = new int[n];
            due[0] = 1;
            CHECK.row("a row times its inverse", x, 0, due);
        }
        for (int row : Check.NO_ROWS) {
            CHECK.refuses("invert no row", x, Check.PLACE, () -> x.invert(row));
        }
        Rootrows sums = Check.with(4, 4, 4, 4);
        CHECK.refuses("invert with values 0", sums, Check.STATE, () -> sums.invert(0));
        Rootrows last = Check.with(1, 65536);
        CHECK.refuses("invert with the first value 0", last, Check.STATE, () -> last.invert(0));
        CHECK.refuses("invert zeros", last, Check.STATE, () -> last.invert(3));
    }

    private static void promise18Product() {
        Rootrows x = Check.with(9, 8, 7, 6);
        long before = x.checksum();
        int[] numbers = {0, 1, -1, 2, 15, 16, 17, 65535, 65536, 65537, 123456789, -123456789, Integer.MIN_VALUE,
            Integer.MAX_VALUE};
        for (int one : numbers) {
            for (int other : numbers) {
                long due = (one & 0xffffffffL) * (other & 0xffffffffL);
                CHECK.same("product(" + one + ", " + other + ")", x.product(one, other), due);
            }
        }
        CHECK.same("product(-1, -1)", x.product(-1, -1), -8589934591L);
        CHECK.same("checksum after product", x.checksum(), before);
    }

    private static void promise19Digits() {
        Rootrows x = new Rootrows();
        CHECK.same("digits of 0x10A0F", x.digits(0, 0x10A0F), 3);
        CHECK.row("digits of 0x10A0F", x, 0, 15, 0, 10, 0, 1, 0, 0, 0, 0, 0, 0, 0, 0, 0, 0, 0);
        CHECK.same("digits of -1", x.digits(0, -1), 8);
        CHECK.row("digits of -1", x, 0, 15, 15, 15, 15, 15, 15, 15, 15, 0, 0, 0, 0, 0, 0, 0, 0);
        CHECK.same("digits of the least", x.digits(3, Integer.MIN_VALUE), 1);
        CHECK.same("their place 7", x.number(3, 7), 8);
        CHECK.same("digits of 0", x.digits(0, 0), 0);
        CHECK.row("digits of 0", x, 0, new int[16]);
        for (int row : Check.NO_ROWS) {
            CHECK.refuses("digits into no row", x, Check.PLACE, () -> x.digits(row, 5));
        }
    }

    private static void promise20Told() {
        Rootrows x = Check.with(1, 2, 3, 65536);
        CHECK.same("told", x.told(0), 1 + 32 + 768 + 65536 * 4096L);
        x.digits(1, -5);
        CHECK.same("told of digits", x.told(1), 4294967291L);
        x.make(2, 16);
        x.set(2, 15, 65535);
        CHECK.same("told goes round", x.told(2), -(1L << 60));
        x.set(2, 15, 65536);
        CHECK.same("told goes round to 0", x.told(2), 0);
        x.set(2, 15, 8);
        CHECK.same("told below 0", x.told(2), Long.MIN_VALUE);
        x.fill(2, 0, 1);
        CHECK.same("told of ones", x.told(2), 0x1111111111111111L);
        for (int row : Check.NO_ROWS) {
            CHECK.refuses("told of no row", x, Check.PLACE, () -> x.told(row));
        }
    }

    public static void main(String[] args) {
        promise11Values();
        promise11BothWays();
        promise12Back();
        promise13ValueAt();
        promise14Support();
        promise15Times();
        promise16PlainTimes();
        promise16WrongRows();
        promise17Invert();
        promise18Product();
        promise19Digits();
        promise20Told();
        CHECK.end();
    }
}
