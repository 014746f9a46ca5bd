/** Promises 21 to 32: rows that are changed, and what is asked of rows. */
final class ChangesTest {
    private static final Check CHECK = new Check();

    private static void promise21Shift() {
        Rootrows x = Check.with(1, 2, 3, 4);
        CHECK.same("shift by 1", x.shift(0, 1), 4);
        CHECK.row("shift by 1", x, 0, 4, 1, 2, 3);
        CHECK.same("shift by -2", x.shift(0, -2), 2);
        CHECK.row("shift by -2", x, 0, 2, 3, 4, 1);
        CHECK.same("shift by 0", x.shift(0, 0), 2);
        CHECK.same("shift by 4", x.shift(0, 4), 2);
        CHECK.same("shift by 7", x.shift(0, 7), 3);
        CHECK.row("shift by 7", x, 0, 3, 4, 1, 2);
        CHECK.same("shift by the greatest", x.shift(0, Integer.MAX_VALUE), 4);
        CHECK.same("shift by the least", x.shift(0, Integer.MIN_VALUE), 4);
        CHECK.row("shift by the least", x, 0, 4, 1, 2, 3);
        for (int row : Check.NO_ROWS) {
            CHECK.refuses("shift no row", x, Check.PLACE, () -> x.shift(row, 1));
        }
    }

    private static void promise22Weigh() {
        Rootrows x = Check.with(1, 2, 3, 4);
        CHECK.same("weigh by 1", x.weigh(0, 1), 512);
        CHECK.row("weigh by 1", x, 0, 1, 512, 65534, 65537 - 1024);
        CHECK.same("weigh by -1", x.weigh(0, -1), 2);
        CHECK.row("weigh by -1", x, 0, 1, 2, 3, 4);
        CHECK.same("weigh by the least", x.weigh(0, Integer.MIN_VALUE), 2);
        CHECK.row("weigh by the least", x, 0, 1, 2, 3, 4);
        CHECK.same("weigh by the greatest", x.weigh(0, Integer.MAX_VALUE), 65537 - 512);
        CHECK.row("weigh by the greatest", x, 0, 1, 65537 - 512, 65534, 1024);
        x.useOdd(3);
        Check.put(x, 1, 1, 1, 1, 1, 1, 1, 1, 1);
        x.weigh(1, 3);
        for (int i = 0; i < 8; i++) {
            CHECK.same("weigh by 3 at " + i, x.number(1, i), x.power(8, 3 * i));
        }
        for (int row : Check.NO_ROWS) {
            CHECK.refuses("weigh no row", x, Check.PLACE, () -> x.weigh(row, 1));
        }
    }

    private static void promise23TurnRound() {
        Rootrows x = Check.with(1, 2, 3, 4);
        CHECK.same("turnRound", x.turnRound(0), true);
        CHECK.row("turnRound", x, 0, 1, 4, 3, 2);
        CHECK.same("turnRound of 1, 2", Check.with(1, 2).turnRound(0), false);
        CHECK.same("turnRound of 9, 2, 3, 2", Check.with(9, 2, 3, 2).turnRound(0), false);
        for (int row : Check.NO_ROWS) {
            CHECK.refuses("turnRound of no row", x, Check.PLACE, () -> x.turnRound(row));
        }
    }

    private static void promise24Combine() {
        Rootrows x = Check.with(1, 2, 65536, 4);
        Check.put(x, 1, 1, 5, 2, 65533);
        CHECK.same("sums", x.combine(0, 1, '+'), 1);
        CHECK.row("sums", x, 0, 2, 7, 1, 0);
        CHECK.same("differences", x.combine(0, 1, '-'), 0);
        CHECK.row("differences", x, 0, 1, 2, 65536, 4);
        CHECK.same("products", x.combine(0, 1, '*'), 0);
        CHECK.row("products", x, 0, 1, 10, 65535, 65521);
        CHECK.row("the other", x, 1, 1, 5, 2, 65533);
        CHECK.same("sums with itself", x.combine(1, 1, '+'), 0);
        CHECK.row("sums with itself", x, 1, 2, 10, 4, 65529);
        CHECK.same("products with itself", x.combine(1, 1, '*'), 0);
        CHECK.row("products with itself", x, 1, 4, 100, 16, 64);
        CHECK.same("differences with itself", x.combine(1, 1, '-'), 4);
        CHECK.row("differences with itself", x, 1, 0, 0, 0, 0);
        Check.put(x, 3, 0, 1, 2, 3, 4, 5, 6, 7, 8, 9, 10, 11, 12, 13, 14, 65536);
        x.make(2, 16);
        CHECK.same("differences of 16", x.combine(2, 3, '-'), 1);
        CHECK.row("differences of 16", x, 2, 0, 65536, 65535, 65534, 65533, 65532, 65531, 65530, 65529, 65528, 65527,
                65526, 65525, 65524, 65523, 1);
        CHECK.same("sums of 16", x.combine(2, 3, '+'), 16);
        x.copy(3, 2);
        CHECK.same("products of 16", x.combine(2, 3, '*'), 1);
        CHECK.same("the last of them", x.number(2, 15), 1);
    }

    private static void promise24Refusals() {
        for (char how : new char[] {'+', '-', '*'}) {
            Rootrows x = Check.with(1, 2, 3, 4);
            CHECK.refuses("combine of unlike", x, Check.STATE, () -> x.combine(0, 2, how));
            CHECK.refuses("combine with unlike", x, Check.STATE, () -> x.combine(2, 0, how));
        }
        for (char how : new char[] {0, ' ', ',', '/', ')', '.', 'x', (char) ('+' + 256), 65535}) {
            Rootrows x = Check.with(1, 2, 3, 4);
            Check.put(x, 1, 5, 6, 7, 8);
            CHECK.refuses("no sign", x, Check.ARGUMENT, () -> x.combine(0, 1, how));
            CHECK.refuses("no sign, of unlike", x, Check.ARGUMENT, () -> x.combine(0, 2, how));
        }
        for (int row : Check.NO_ROWS) {
            Rootrows x = Check.with(1, 2, 3, 4);
            CHECK.refuses("combine of no row", x, Check.PLACE, () -> x.combine(row, 0, '/'));
            CHECK.refuses("combine with no row", x, Check.PLACE, () -> x.combine(0, row, '/'));
        }
    }

    private static void promise25Multiply() {
        Rootrows x = Check.with(1, 0, 65536, 4);
        CHECK.same("multiply by 65536", x.multiply(0, 65536), 1);
        CHECK.row("multiply by 65536", x, 0, 65536, 0, 1, 65533);
        CHECK.same("multiply by 1", x.multiply(0, 1), 1);
        CHECK.same("multiply by 2", x.multiply(0, 2), 1);
        CHECK.row("multiply by 2", x, 0, 65535, 0, 2, 65529);
        CHECK.same("multiply by 0", x.multiply(0, 0), 4);
        CHECK.row("multiply by 0", x, 0, 0, 0, 0, 0);
        for (int row : Check.NO_ROWS) {
            CHECK.refuses("multiply no row", x, Check.PLACE, () -> x.multiply(row, -1));
        }
        for (int factor : Check.FAR) {
            CHECK.refuses("multiply by " + factor, x, Check.ARGUMENT, () -> x.multiply(0, factor));
        }
    }

    private static void promise26Repeat() {
        Rootrows x = Check.with(1, 2, 3, 2, 1, 9, 3, 4);
        CHECK.same("repeat after 8", x.repeat(0, 8), 0);
        CHECK.same("repeat after 4", x.repeat(0, 4), 2);
        CHECK.row("repeat after 4", x, 0, 1, 2, 3, 2, 1, 2, 3, 2);
        CHECK.same("repeat after 2", x.repeat(0, 2), 2);
        CHECK.row("repeat after 2", x, 0, 1, 2, 1, 2, 1, 2, 1, 2);
        CHECK.same("repeat after 1", x.repeat(0, 1), 4);
        CHECK.row("repeat after 1", x, 0, 1, 1, 1, 1, 1, 1, 1, 1);
        x.make(1, 16);
        CHECK.same("repeat after 16", x.repeat(1, 16), 0);
        CHECK.refuses("repeat 8 after 16", x, Check.ARGUMENT, () -> x.repeat(0, 16));
        CHECK.refuses("repeat 2 after 4", x, Check.ARGUMENT, () -> x.repeat(2, 4));
    }

    private static void promise26Refusals() {
        for (int row : Check.NO_ROWS) {
            Rootrows x = Check.with(1, 2, 3, 4);
            CHECK.refuses("repeat no row", x, Check.PLACE, () -> x.repeat(row, 3));
        }
        for (int after : Check.NO_LENGTHS) {
            if (after != 1) {
                Rootrows x = Check.with(Check.ramp(16));
                CHECK.refuses("repeat after " + after, x, Check.ARGUMENT, () -> x.repeat(0, after));
            }
        }
    }

    private static void promise27Own() {
        Rootrows x = Check.with(1, 2);
        CHECK.same("own", x.own(0), 0);
        CHECK.row("own of 1, 2", x, 0, 6 + 4080 * 2, 4080 * 4 - 2);
        CHECK.same("own of zeros", Check.with(0, 0, 0, 0).own(0), 4);
        Check.put(x, 1, 1, 0, 0, 0);
        x.own(1);
        CHECK.row("own of 1, 0, 0, 0", x, 1, 6, 2, 2, 2);
        Check.put(x, 1, 0, 1, 0, 0);
        CHECK.same("own of 0, 1, 0, 0", x.own(1), 0);
        CHECK.row("own of 0, 1, 0, 0", x, 1, 2, 2, 65535, 2);
        Check.put(x, 2, 0, 32769, 65536, 32769);
        CHECK.same("own with a number 0", x.own(2), 1);
        CHECK.row("own with a number 0", x, 2, 0, 4, 65529, 4);
        Check.put(x, 2, 1, 0, 65536, 0);
        CHECK.same("own of 1, 0, 65536, 0", x.own(2), 0);
        CHECK.row("own of 1, 0, 65536, 0", x, 2, 4, 4, 65533, 4);
        Check.put(x, 2, 1, 0, 0, 0, 0, 0, 0, 0);
        x.own(2);
        CHECK.row("own of 1 and 7 zeros", x, 2, 2 + 16320, 2, 2, 2, 2, 2, 2, 2);
        x.make(3, 16);
        x.set(3, 0, 1);
        x.own(3);
        CHECK.same("own of 1 and 15 zeros", x.number(3, 0), 10);
        CHECK.same("its factor", x.factor(3), 4);
        CHECK.same("the factor of 8", x.factor(2), 8160);
        CHECK.same("the factor of 4", x.factor(1), 2);
        CHECK.same("the factor of 2", x.factor(0), 4080);
        for (int row : Check.NO_ROWS) {
            CHECK.refuses("own of no row", x, Check.PLACE, () -> x.own(row));
        }
    }

    private static void promise28Period() {
        CHECK.same("period of 1, 2", Check.with(1, 2).period(0), 2);
        CHECK.same("period of 1, 1", Check.with(1, 1).period(0), 1);
        CHECK.same("period of 1, 2, 1, 2", Check.with(1, 2, 1, 2).period(0), 2);
        CHECK.same("period of 1, 2, 2, 1", Check.with(1, 2, 2, 1).period(0), 4);
        CHECK.same("period of 4", Check.with(1, 2, 3, 2, 1, 2, 3, 2).period(0), 4);
        CHECK.same("period of 8", Check.with(1, 2, 1, 2, 1, 2, 1, 3).period(0), 8);
        Rootrows x = new Rootrows();
        x.make(1, 16);
        CHECK.same("period of zeros", x.period(1), 1);
        x.set(1, 15, 1);
        CHECK.same("period of 16", x.period(1), 16);
        x.set(1, 7, 1);
        CHECK.same("period of 8 in 16", x.period(1), 8);
        for (int row : Check.NO_ROWS) {
            CHECK.refuses("period of no row", x, Check.PLACE, () -> x.period(row));
        }
    }

    private static void promise29Factor() {
        CHECK.same("factor of zeros", new Rootrows().factor(0), 0);
        CHECK.same("factor of 1, 2", Check.with(1, 2).factor(0), Rootrows.NONE);
        CHECK.same("factor of 0, 1", Check.with(0, 1).factor(0), Rootrows.NONE);
        CHECK.same("factor of 1, 0", Check.with(1, 0).factor(0), Rootrows.NONE);
        // As 1, 0, 0, 0 is itself TURNED ROUND, its VALUES less 2 times itself have VALUES that are -2 times them.
        Rootrows x = Check.with(1, 0, 0, 0);
        x.copy(0, 1);
        x.values(1, true);
        x.multiply(0, 2);
        x.combine(1, 0, '-');
        CHECK.same("factor 65535", x.factor(1), 65535);
        Check.put(x, 2, 0, 1, 0, 65536);
        CHECK.same("factor with 0 at place 0", x.factor(2), 512);
        x.useOdd(3);
        CHECK.same("factor with 0 at place 0 by 3", x.factor(2), 65025);
        for (int row : Check.NO_ROWS) {
            CHECK.refuses("factor of no row", x, Check.PLACE, () -> x.factor(row));
        }
    }

    private static void promise30Sum() {
        Rootrows x = Check.with(1, 2, 3, 4);
        Check.put(x, 1, 5, 6, 7, 65536);
        CHECK.same("sum", x.sum(0, 1, false), 5 + 12 + 21 - 4);
        CHECK.same("sum back", x.sum(0, 1, true), 5 - 2 + 21 + 24);
        CHECK.same("sum back of the other", x.sum(1, 0, true), 5 + 24 + 21 - 2);
        CHECK.same("sum with itself", x.sum(0, 0, false), 30);
        CHECK.same("sum with itself back", x.sum(0, 0, true), 26);
        x.make(2, 16);
        x.fill(2, 0, 65536);
        CHECK.same("sum of 65536 everywhere", x.sum(2, 2, false), 16);
    }

    private static void promise30Refusals() {
        for (boolean isBack : new boolean[] {false, true}) {
            Rootrows x = Check.with(1, 2, 3, 4);
            CHECK.refuses("sum of unlike", x, Check.STATE, () -> x.sum(0, 3, isBack));
            for (int row : Check.NO_ROWS) {
                CHECK.refuses("sum of no row", x, Check.PLACE, () -> x.sum(row, 0, isBack));
                CHECK.refuses("sum with no row", x, Check.PLACE, () -> x.sum(0, row, isBack));
            }
        }
    }

    private static void promise31Mean() {
        CHECK.same("mean of 1, 2", Check.with(1, 2).mean(0), 1.5);
        CHECK.same("mean of 65536, 65536", Check.with(65536, 65536).mean(0), 65536.0);
        CHECK.same("mean of 1 and 15 zeros", Check.with(1, 0, 0, 0, 0, 0, 0, 0, 0, 0, 0, 0, 0, 0, 0, 0).mean(0), 0.0625);
        CHECK.same("mean of zeros", new Rootrows().mean(3), 0.0);
        Rootrows x = new Rootrows();
        x.make(0, 16);
        x.fill(0, 0, 65536);
        x.set(0, 9, 65535);
        CHECK.same("mean of 16", x.mean(0), 65535.9375);
        for (int row : Check.NO_ROWS) {
            CHECK.refuses("mean of no row", x, Check.PLACE, () -> x.mean(row));
        }
    }

    private static void promise32Zeros() {
        CHECK.same("zeros of a new row", new Rootrows().zeros(3), 1.0f);
        CHECK.same("zeros of 1, 2", Check.with(1, 2).zeros(0), 0.0f);
        CHECK.same("zeros of 1, 0, 0, 0", Check.with(1, 0, 0, 0).zeros(0), 0.75f);
        Rootrows x = new Rootrows();
        x.make(0, 16);
        x.fill(0, 1, 65536);
        CHECK.same("zeros of 16", x.zeros(0), 0.0625f);
        for (int row : Check.NO_ROWS) {
            CHECK.refuses("zeros of no row", x, Check.PLACE, () -> x.zeros(row));
        }
    }

    public static void main(String[] args) {
        promise21Shift();
        promise22Weigh();
        promise23TurnRound();
        promise24Combine();
        promise24Refusals();
        promise25Multiply();
        promise26Repeat();
        promise26Refusals();
        promise27Own();
        promise28Period();
        promise29Factor();
        promise30Sum();
        promise30Refusals();
        promise31Mean();
        promise32Zeros();
        CHECK.end();
    }
}
