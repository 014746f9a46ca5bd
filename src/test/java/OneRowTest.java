import java.util.Arrays;
import java.util.LinkedHashMap;
import java.util.Map;

/**
 * A call that changes a row changes that one alone: no other row, and not ODD. And what the row becomes is the same,
 * whichever of the four it is.
 */
final class OneRowTest {
    private static final Check CHECK = new Check();

    /** A call of a row and another one. */
    private interface Call {
        void of(Rootrows x, int row, int other);
    }

    private static Map<String, Call> changes() {
        Map<String, Call> calls = new LinkedHashMap<>();
        calls.put("make", (x, row, other) -> x.make(row, 16));
        calls.put("set", (x, row, other) -> x.set(row, 1, 65536));
        calls.put("fill", (x, row, other) -> x.fill(row, 0, 65536));
        calls.put("copy", (x, row, other) -> x.copy(other, row));
        calls.put("values", (x, row, other) -> x.values(row, false));
        calls.put("values by halving", (x, row, other) -> x.values(row, true));
        calls.put("back", (x, row, other) -> x.back(row));
        calls.put("times", (x, row, other) -> x.times(row, other, false));
        calls.put("times by values", (x, row, other) -> x.times(row, other, true));
        calls.put("plainTimes", (x, row, other) -> x.plainTimes(row, other));
        calls.put("invert", (x, row, other) -> x.invert(row));
        calls.put("digits", (x, row, other) -> x.digits(row, -1));
        calls.put("shift", (x, row, other) -> x.shift(row, 1));
        calls.put("weigh", (x, row, other) -> x.weigh(row, 1));
        calls.put("turnRound", (x, row, other) -> x.turnRound(row));
        calls.put("sums", (x, row, other) -> x.combine(row, other, '+'));
        calls.put("differences", (x, row, other) -> x.combine(row, other, '-'));
        calls.put("products", (x, row, other) -> x.combine(row, other, '*'));
        calls.put("multiply", (x, row, other) -> x.multiply(row, 2));
        calls.put("repeat", (x, row, other) -> x.repeat(row, 1));
        calls.put("own", (x, row, other) -> x.own(row));
        return calls;
    }

    /** Rows with no two numbers alike and no VALUES that are 0. */
    private static int[] numbers(int row) {
        return new int[] {1000 + row, 2, 30 + row, 7};
    }

    private static Rootrows fourRows() {
        Rootrows x = new Rootrows();
        x.useOdd(11);
        for (int row = 0; row < 4; row++) {
            Check.put(x, row, numbers(row));
        }
        return x;
    }

    private static void changesOneRow() {
        CHECK.sentence("Makes a row what it becomes, and no other row; ODD stays");
        changes().forEach((name, call) -> {
            for (int row = 0; row < 4; row++) {
                for (int other = 0; other < 4; other++) {
                    changesOneRow(name, call, row, other);
                }
            }
        });
    }

    private static void changesOneRow(String name, Call call, int row, int other) {
        String what = name + " of " + row + " and " + other;
        Rootrows x = fourRows();
        call.of(x, row, other);
        boolean isCopyOfItself = name.equals("copy") && row == other;
        CHECK.same(what + " leaves it", isAsMade(x, row), isCopyOfItself);
        for (int third = 0; third < 4; third++) {
            if (third != row) {
                CHECK.row(what + ", row " + third, x, third, numbers(third));
            }
        }
        CHECK.same(what + ", ODD", x.useOdd(1), 11);
    }

    private static boolean isAsMade(Rootrows x, int row) {
        return Arrays.equals(Check.numbers(x, row), numbers(row));
    }

    private static void alikeInEachRow() {
        CHECK.sentence("row: 0 to 3, each of them alike");
        changes().forEach((name, call) -> {
            Rootrows first = sameRows();
            call.of(first, 0, 0);
            int[] due = Check.numbers(first, 0);
            for (int row = 0; row < 4; row++) {
                for (int other = 0; other < 4; other++) {
                    Rootrows x = sameRows();
                    call.of(x, row, other);
                    CHECK.row(name + " of " + row + " and " + other, x, row, due);
                }
            }
        });
    }

    private static Rootrows sameRows() {
        Rootrows x = new Rootrows();
        x.useOdd(11);
        for (int row = 0; row < 4; row++) {
            Check.put(x, row, numbers(0));
        }
        return x;
    }

    public static void main(String[] args) {
        changesOneRow();
        alikeInEachRow();
        CHECK.end();
    }
}
