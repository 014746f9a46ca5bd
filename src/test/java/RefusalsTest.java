/**
 * Every exception that the document names, with every choice of right and wrong arguments: the one that is documented
 * first is thrown, and nothing is changed; and where none applies, none is thrown. In each promise there stands
 * IndexOutOfBoundsException first, then IllegalArgumentException, then IllegalStateException.
 */
final class RefusalsTest {
    private static final Check CHECK = new Check();

    private static final int LEAST = Integer.MIN_VALUE;
    private static final int GREATEST = Integer.MAX_VALUE;
    private static final int[] ROWS = {LEAST, -4, -1, 0, 1, 2, 3, 4, 5, GREATEST};
    private static final int[] NUMBERS = {LEAST, -65537, -1, 0, 1, 65536, 65537, GREATEST};
    private static final int[] PLACES = {LEAST, -1, 0, 1, 2, 3, 4, 5, 7, 8, 9, 15, 16, 17, GREATEST};
    private static final int[] SIZES = {LEAST, LEAST + 2, -16, -2, -1, 0, 1, 2, 3, 4, 5, 8, 12, 15, 16, 17, 32, GREATEST};
    private static final int[] ANY = {LEAST, -1, 0, 1, GREATEST};

    private interface Call {
        void of(Rootrows x);
    }

    /** Rows of the lengths 2, 4, 8 and 16, all numbers other than 0, and none of the first three can be inverted. */
    private static Rootrows unlike() {
        Rootrows x = new Rootrows();
        x.useOdd(31);
        for (int row = 0; row < 3; row++) {
            Check.put(x, row, Check.all(2 << row, 65536 - row));
        }
        Check.put(x, 3, Check.ramp(16));
        return x;
    }

    /** Rows 0 and 1 of n numbers, and rows 2 and 3 of other lengths. */
    private static Rootrows alike(int n) {
        Rootrows x = new Rootrows();
        x.useOdd(17);
        Check.put(x, 0, Check.ramp(n));
        Check.put(x, 1, Check.mixed(n, 3));
        Check.put(x, 2, Check.ramp(n == 2 ? 16 : n / 2));
        Check.put(x, 3, Check.ramp(n == 16 ? 2 : n * 2));
        return x;
    }

    private static Rootrows[] objects() {
        return new Rootrows[] {new Rootrows(), unlike(), alike(2), alike(4), alike(8), alike(16)};
    }

    private static boolean isRow(int row) {
        return row >= 0 && row <= 3;
    }

    private static boolean isNumber(int number) {
        return number >= 0 && number <= 65536;
    }

    private static boolean isSize(int size) {
        return size == 2 || size == 4 || size == 8 || size == 16;
    }

    /** The exception that is due: the first of those that apply; null if there is none. */
    private static Class<? extends RuntimeException> due(boolean isPlace, boolean isArgument, boolean isState) {
        return !isPlace ? Check.PLACE : !isArgument ? Check.ARGUMENT : !isState ? Check.STATE : null;
    }

    private static void ends(String what, Rootrows x, Class<? extends RuntimeException> due, Call call) {
        if (due == null) {
            CHECK.allows(what, () -> call.of(x));
        } else {
            CHECK.refuses(what, x, due, () -> call.of(x));
        }
    }

    private static void ofRow(String name, int row, Call call) {
        for (Rootrows x : objects()) {
            ends(name + "(" + row + ")", x, due(isRow(row), true, true), call);
        }
    }

    private static void noSuchRow() {
        CHECK.sentence("Throws IndexOutOfBoundsException if there is no such row");
        for (int row : ROWS) {
            ofRow("length", row, x -> x.length(row));
            ofRow("values", row, x -> x.values(row, false));
            ofRow("values by halving", row, x -> x.values(row, true));
            ofRow("back", row, x -> x.back(row));
            ofRow("support", row, x -> x.support(row));
            ofRow("told", row, x -> x.told(row));
            ofRow("turnRound", row, x -> x.turnRound(row));
            ofRow("own", row, x -> x.own(row));
            ofRow("period", row, x -> x.period(row));
            ofRow("factor", row, x -> x.factor(row));
            ofRow("mean", row, x -> x.mean(row));
            ofRow("zeros", row, x -> x.zeros(row));
            ofRow("isBack", row, x -> x.isBack(row));
            ofRow("isOwn", row, x -> x.isOwn(row));
            ofRow("isInverse", row, x -> x.isInverse(row));
            for (int any : ANY) {
                ofRow("digits", row, x -> x.digits(row, any));
                ofRow("shift", row, x -> x.shift(row, any));
                ofRow("weigh", row, x -> x.weigh(row, any));
                ofRow("isShifted", row, x -> x.isShifted(row, any));
            }
        }
    }

    private static void make() {
        CHECK.sentence("Promise 2, the row ahead of the length");
        for (int row : ROWS) {
            for (int length : SIZES) {
                for (Rootrows x : objects()) {
                    ends("make(" + row + ", " + length + ")", x, due(isRow(row), isSize(length), true),
                            y -> y.make(row, length));
                }
            }
        }
    }

    private static boolean isPlaceOf(Rootrows x, int row, int place) {
        return isRow(row) && place >= 0 && place < x.length(row);
    }

    private static void set() {
        CHECK.sentence("Promise 3, the row and the place ahead of the number");
        for (int row : ROWS) {
            for (int place : PLACES) {
                for (int number : NUMBERS) {
                    for (Rootrows x : objects()) {
                        ends("set(" + row + ", " + place + ", " + number + ")", x,
                                due(isPlaceOf(x, row, place), isNumber(number), true), y -> y.set(row, place, number));
                    }
                }
            }
        }
    }

    private static void fill() {
        CHECK.sentence("Promise 4, the row and from ahead of the number");
        for (int row : ROWS) {
            for (int from : PLACES) {
                for (int number : NUMBERS) {
                    for (Rootrows x : objects()) {
                        boolean isFrom = isPlaceOf(x, row, from) || isRow(row) && from == x.length(row);
                        ends("fill(" + row + ", " + from + ", " + number + ")", x,
                                due(isFrom, isNumber(number), true), y -> y.fill(row, from, number));
                    }
                }
            }
        }
    }

    private static void copy() {
        CHECK.sentence("Promise 5, there is no such row, for either");
        for (int row : ROWS) {
            for (int into : ROWS) {
                for (Rootrows x : objects()) {
                    ends("copy(" + row + ", " + into + ")", x, due(isRow(row) && isRow(into), true, true),
                            y -> y.copy(row, into));
                }
            }
        }
    }

    private static void number() {
        CHECK.sentence("Promise 7, there is no such row or place");
        for (int row : ROWS) {
            for (int place : PLACES) {
                for (Rootrows x : objects()) {
                    ends("number(" + row + ", " + place + ")", x, due(isPlaceOf(x, row, place), true, true),
                            y -> y.number(row, place));
                }
            }
        }
    }

    private static void rowAheadOfNumber() {
        CHECK.sentence("Promises 13 and 25, the row ahead of the number");
        for (int row : ROWS) {
            for (int number : NUMBERS) {
                for (Rootrows x : objects()) {
                    ends("valueAt(" + row + ", " + number + ")", x, due(isRow(row), isNumber(number), true),
                            y -> y.valueAt(row, number));
                    ends("multiply(" + row + ", " + number + ")", x, due(isRow(row), isNumber(number), true),
                            y -> y.multiply(row, number));
                }
            }
        }
    }

    private static void rowAheadOfAfter() {
        CHECK.sentence("Promises 26 and 38, the row ahead of after");
        for (int row : ROWS) {
            for (int after : SIZES) {
                for (Rootrows x : objects()) {
                    boolean isAfter = (after == 1 || isSize(after)) && isRow(row) && after <= x.length(row);
                    ends("isAgain(" + row + ", " + after + ")", x, due(isRow(row), isAfter, true),
                            y -> y.isAgain(row, after));
                    ends("repeat(" + row + ", " + after + ")", x, due(isRow(row), isAfter, true),
                            y -> y.repeat(row, after));
                }
            }
        }
    }

    private static void invert() {
        CHECK.sentence("Promise 17, the row ahead of a value that is 0");
        for (int row : ROWS) {
            for (Rootrows x : objects()) {
                boolean isInvertible = isRow(row) && Integer.bitCount(x.support(row)) == x.length(row);
                ends("invert(" + row + ")", x, due(isRow(row), true, isInvertible), y -> y.invert(row));
            }
        }
        Rootrows x = unlike();
        for (int row = 0; row < 3; row++) {
            int told = row;
            CHECK.refuses("invert(" + row + ")", x, Check.STATE, () -> x.invert(told));
        }
        CHECK.allows("invert(3)", () -> x.invert(3));
    }

    private static void ofTwo(String name, boolean isSixteenToo, int row, int other, Call call) {
        for (Rootrows x : objects()) {
            boolean areRows = isRow(row) && isRow(other);
            boolean isState = areRows && x.length(row) == x.length(other) && (isSixteenToo || x.length(row) < 16);
            ends(name + "(" + row + ", " + other + ")", x, due(areRows, true, isState), call);
        }
    }

    private static void rowsAheadOfLengths() {
        CHECK.sentence("Promises 15, 16, 30, 34 and 35, both rows ahead of their LENGTHS");
        for (int row : ROWS) {
            for (int other : ROWS) {
                ofTwo("times", true, row, other, x -> x.times(row, other, false));
                ofTwo("times by values", true, row, other, x -> x.times(row, other, true));
                ofTwo("plainTimes", false, row, other, x -> x.plainTimes(row, other));
                ofTwo("sum", true, row, other, x -> x.sum(row, other, false));
                ofTwo("sum back", true, row, other, x -> x.sum(row, other, true));
                ofTwo("isProduct", true, row, other, x -> x.isProduct(row, other));
                ofTwo("isPlain", false, row, other, x -> x.isPlain(row, other));
            }
        }
    }

    private static boolean areAlike(Rootrows x, int row, int other) {
        return isRow(row) && isRow(other) && x.length(row) == x.length(other);
    }

    private static void combine() {
        CHECK.sentence("Promise 24, both rows ahead of the sign, and this ahead of their LENGTHS");
        for (int row : ROWS) {
            for (int other : ROWS) {
                for (char how : new char[] {0, ')', '*', '+', ',', '-', '.', '/', 0x12a, 0x12b, 0x12d, 0xffff}) {
                    boolean isSign = "+-*".indexOf(how) >= 0;
                    for (Rootrows x : objects()) {
                        ends("combine(" + row + ", " + other + ", " + (int) how + ")", x,
                                due(isRow(row) && isRow(other), isSign, areAlike(x, row, other)),
                                y -> y.combine(row, other, how));
                    }
                }
            }
        }
    }

    private static void isSum() {
        CHECK.sentence("Promise 37, both rows ahead of the factor, and this ahead of their LENGTHS");
        for (int row : ROWS) {
            for (int other : ROWS) {
                for (int factor : NUMBERS) {
                    for (Rootrows x : objects()) {
                        ends("isSum(" + row + ", " + other + ", " + factor + ")", x,
                                due(isRow(row) && isRow(other), isNumber(factor), areAlike(x, row, other)),
                                y -> y.isSum(row, other, factor));
                    }
                }
            }
        }
    }

    private static void roots() {
        CHECK.sentence("Promises 8 to 10, throws IllegalArgumentException");
        for (int length : SIZES) {
            for (Rootrows x : objects()) {
                ends("root(" + length + ")", x, due(true, isSize(length), true), y -> y.root(length));
                boolean isOdd = length >= 1 && length <= 31 && length % 2 == 1;
                ends("useOdd(" + length + ")", x, due(true, isOdd, true), y -> y.useOdd(length));
            }
            for (int any : ANY) {
                for (Rootrows x : objects()) {
                    ends("power(" + length + ", " + any + ")", x, due(true, isSize(length), true),
                            y -> y.power(length, any));
                }
            }
        }
    }

    private static void none() {
        CHECK.sentence("Promises 18, 41 and 42, no exception is named");
        for (int one : ANY) {
            for (int other : ANY) {
                for (Rootrows x : objects()) {
                    CHECK.leaves("product", x, () -> x.product(one, other));
                }
            }
        }
        for (Rootrows x : objects()) {
            CHECK.leaves("isSound", x, x::isSound);
            CHECK.leaves("checksum", x, x::checksum);
        }
    }

    public static void main(String[] args) {
        noSuchRow();
        make();
        set();
        fill();
        copy();
        number();
        rowAheadOfNumber();
        rowAheadOfAfter();
        invert();
        rowsAheadOfLengths();
        combine();
        isSum();
        roots();
        none();
        CHECK.end();
    }
}
