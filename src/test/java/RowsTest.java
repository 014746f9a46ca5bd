/** Promises 1 to 10: a new object, rows, roots. */
final class RowsTest {
    private static final Check CHECK = new Check();

    private static void promise1NewObject() {
        Rootrows x = new Rootrows();
        for (int row = 0; row < 4; row++) {
            CHECK.row("a new row " + row, x, row, 0, 0);
        }
        CHECK.same("a new object's ODD", x.useOdd(3), 1);
        Rootrows other = new Rootrows();
        CHECK.same("ODD of a second object", other.useOdd(1), 1);
        CHECK.same("useOdd after it", x.useOdd(5), 3);
    }

    private static void promise2Make() {
        for (int row = 0; row < 4; row++) {
            Rootrows x = new Rootrows();
            int before = 2;
            for (int length : new int[] {2, 4, 4, 16, 8, 16, 2}) {
                x.fill(row, 0, 9);
                CHECK.same("make(" + row + ", " + length + ")", x.make(row, length), before);
                CHECK.row("what make() made", x, row, new int[length]);
                before = length;
            }
        }
        for (int row : Check.NO_ROWS) {
            Rootrows x = Check.with(1, 2, 3, 4);
            CHECK.refuses("make(" + row + ", 2)", x, Check.PLACE, () -> x.make(row, 2));
            CHECK.refuses("make(" + row + ", 3)", x, Check.PLACE, () -> x.make(row, 3));
        }
        for (int length : Check.NO_LENGTHS) {
            Rootrows x = Check.with(1, 2, 3, 4);
            CHECK.refuses("make(0, " + length + ")", x, Check.ARGUMENT, () -> x.make(0, length));
        }
    }

    private static void promise3Set() {
        Rootrows x = Check.with(1, 2, 3, 4);
        CHECK.same("set(0, 3, 65536)", x.set(0, 3, 65536), 4);
        CHECK.same("set(0, 0, 0)", x.set(0, 0, 0), 1);
        CHECK.same("set(0, 3, 5)", x.set(0, 3, 5), 65536);
        CHECK.row("after set", x, 0, 0, 2, 3, 5);
        CHECK.row("another row", x, 1, 0, 0);
        x.make(3, 16);
        CHECK.same("set(3, 15, 8)", x.set(3, 15, 8), 0);
        CHECK.same("number(3, 15)", x.number(3, 15), 8);
    }

    private static void promise3Refusals() {
        for (int row : Check.NO_ROWS) {
            Rootrows x = Check.with(1, 2, 3, 4);
            CHECK.refuses("set at no row", x, Check.PLACE, () -> x.set(row, 0, -1));
        }
        for (int place : new int[] {Integer.MIN_VALUE, -1, 4, 5, 16, 17, Integer.MAX_VALUE}) {
            Rootrows x = Check.with(1, 2, 3, 4);
            CHECK.refuses("set at " + place, x, Check.PLACE, () -> x.set(0, place, 1));
            CHECK.refuses("set at " + place + " no number", x, Check.PLACE, () -> x.set(0, place, 65537));
        }
        for (int number : Check.FAR) {
            Rootrows x = Check.with(1, 2, 3, 4);
            CHECK.refuses("set " + number, x, Check.ARGUMENT, () -> x.set(0, 0, number));
        }
    }

    private static void promise4Fill() {
        Rootrows x = Check.with(7, 2, 7, 4, 5, 7, 7, 8);
        CHECK.same("fill(0, 2, 7)", x.fill(0, 2, 7), 3);
        CHECK.row("after fill(0, 2, 7)", x, 0, 7, 2, 7, 7, 7, 7, 7, 7);
        CHECK.same("fill(0, 8, 1)", x.fill(0, 8, 1), 0);
        CHECK.row("after fill(0, 8, 1)", x, 0, 7, 2, 7, 7, 7, 7, 7, 7);
        CHECK.same("fill(0, 7, 65536)", x.fill(0, 7, 65536), 1);
        CHECK.same("fill(0, 0, 0)", x.fill(0, 0, 0), 8);
        CHECK.same("fill(0, 0, 0) again", x.fill(0, 0, 0), 0);
        CHECK.row("after fill(0, 0, 0)", x, 0, new int[8]);
    }

    private static void promise4Refusals() {
        for (int row : Check.NO_ROWS) {
            Rootrows x = Check.with(1, 2);
            CHECK.refuses("fill no row", x, Check.PLACE, () -> x.fill(row, 0, -1));
        }
        for (int from : new int[] {Integer.MIN_VALUE, -1, 3, 4, 16, Integer.MAX_VALUE}) {
            Rootrows x = Check.with(1, 2);
            CHECK.refuses("fill from " + from, x, Check.PLACE, () -> x.fill(0, from, 65537));
        }
        for (int number : Check.FAR) {
            Rootrows x = Check.with(1, 2);
            CHECK.refuses("fill " + number, x, Check.ARGUMENT, () -> x.fill(0, 0, number));
            CHECK.refuses("fill none with " + number, x, Check.ARGUMENT, () -> x.fill(0, 2, number));
        }
    }

    private static void promise5Copy() {
        Rootrows x = Check.with(1, 2, 3, 4);
        CHECK.same("copy(0, 3)", x.copy(0, 3), true);
        CHECK.row("row 3", x, 3, 1, 2, 3, 4);
        CHECK.same("copy(0, 3) again", x.copy(0, 3), false);
        CHECK.same("copy(0, 0)", x.copy(0, 0), false);
        x.set(3, 3, 9);
        CHECK.row("row 0 is its own still", x, 0, 1, 2, 3, 4);
        CHECK.same("copy(3, 0)", x.copy(3, 0), true);
        CHECK.row("row 0", x, 0, 1, 2, 3, 9);
        x.make(1, 2);
        x.make(2, 4);
        CHECK.same("copy of zeros of another length", x.copy(1, 2), true);
        CHECK.row("row 2", x, 2, 0, 0);
        CHECK.same("copy of zeros", x.copy(2, 1), false);
        for (int row : Check.NO_ROWS) {
            CHECK.refuses("copy of no row", x, Check.PLACE, () -> x.copy(row, 0));
            CHECK.refuses("copy into no row", x, Check.PLACE, () -> x.copy(0, row));
        }
    }

    private static void promises6And7Asked() {
        Rootrows x = Check.with(1, 2, 3, 65536);
        CHECK.same("length(0)", x.length(0), 4);
        CHECK.same("length(1)", x.length(1), 2);
        CHECK.same("number(0, 0)", x.number(0, 0), 1);
        CHECK.same("number(0, 3)", x.number(0, 3), 65536);
        x.make(0, 16);
        x.fill(0, 0, 3);
        x.make(0, 2);
        CHECK.refuses("number behind a row that was longer", x, Check.PLACE, () -> x.number(0, 2));
    }

    private static void promises6And7Refusals() {
        for (int row : Check.NO_ROWS) {
            Rootrows x = Check.with(1, 2, 3, 65536);
            CHECK.refuses("length of no row", x, Check.PLACE, () -> x.length(row));
            CHECK.refuses("number of no row", x, Check.PLACE, () -> x.number(row, 0));
        }
        for (int place : new int[] {Integer.MIN_VALUE, -1, 4, 5, 15, 16, Integer.MAX_VALUE}) {
            Rootrows x = Check.with(1, 2, 3, 65536);
            CHECK.refuses("number at " + place, x, Check.PLACE, () -> x.number(0, place));
        }
    }

    private static void promise8UseOdd() {
        Rootrows x = new Rootrows();
        int before = 1;
        for (int odd = 1; odd <= 31; odd += 2) {
            CHECK.same("useOdd(" + odd + ")", x.useOdd(odd), before);
            before = odd;
        }
        CHECK.same("useOdd(1)", x.useOdd(1), 31);
    }

    private static void promise8Refusals() {
        for (int odd = -40; odd < 80; odd++) {
            int told = odd;
            if (odd < 1 || odd > 31 || odd % 2 == 0) {
                Rootrows x = Check.with(1, 2);
                CHECK.refuses("useOdd(" + odd + ")", x, Check.ARGUMENT, () -> x.useOdd(told));
                CHECK.same("ODD after it", x.useOdd(3), 1);
            }
        }
        Rootrows x = new Rootrows();
        CHECK.refuses("useOdd of the least", x, Check.ARGUMENT, () -> x.useOdd(Integer.MIN_VALUE));
        CHECK.refuses("useOdd of the least odd one", x, Check.ARGUMENT, () -> x.useOdd(Integer.MIN_VALUE + 1));
        CHECK.refuses("useOdd of the greatest", x, Check.ARGUMENT, () -> x.useOdd(Integer.MAX_VALUE));
    }

    private static void promise9Root() {
        Rootrows x = new Rootrows();
        CHECK.same("root(2)", x.root(2), 65536);
        CHECK.same("root(4)", x.root(4), 256);
        CHECK.same("root(8)", x.root(8), 16);
        CHECK.same("root(16)", x.root(16), 4);
        x.useOdd(3);
        CHECK.same("root(2) by 3", x.root(2), 65536);
        CHECK.same("root(4) by 3", x.root(4), 65281);
        CHECK.same("root(8) by 3", x.root(8), 4096);
        CHECK.same("root(16) by 3", x.root(16), 64);
        x.useOdd(31);
        CHECK.same("root(16) by 31 times 4", x.root(16) * 4L % 65537, 1);
        for (int length : Check.NO_LENGTHS) {
            CHECK.refuses("root(" + length + ")", x, Check.ARGUMENT, () -> x.root(length));
        }
    }

    private static void promise10Power() {
        CHECK.same("power(16, 15)", new Rootrows().power(16, 15), 65537 - 16384);
        for (int odd = 1; odd <= 31; odd += 2) {
            Rootrows x = new Rootrows();
            x.useOdd(odd);
            for (int n : Check.LENGTHS) {
                long w = x.root(n);
                long due = 1;
                for (int exponent = 0; exponent <= 3 * n; exponent++) {
                    CHECK.same("power(" + n + ", " + exponent + ")", x.power(n, exponent), due);
                    CHECK.same("power below 0", due * x.power(n, -exponent) % 65537, 1);
                    due = due * w % 65537;
                }
                CHECK.same("power of n / 2", x.power(n, n / 2), 65536);
                CHECK.same("power of the greatest", x.power(n, Integer.MAX_VALUE), x.power(n, n - 1));
                CHECK.same("power of the least", x.power(n, Integer.MIN_VALUE), 1);
                CHECK.same("power of the least but one", x.power(n, Integer.MIN_VALUE + 1), x.power(n, 1));
            }
        }
        for (int length : Check.NO_LENGTHS) {
            Rootrows x = new Rootrows();
            CHECK.refuses("power(" + length + ", 1)", x, Check.ARGUMENT, () -> x.power(length, 1));
        }
    }

    public static void main(String[] args) {
        promise1NewObject();
        promise2Make();
        promise3Set();
        promise3Refusals();
        promise4Fill();
        promise4Refusals();
        promise5Copy();
        promises6And7Asked();
        promises6And7Refusals();
        promise8UseOdd();
        promise8Refusals();
        promise9Root();
        promise10Power();
        CHECK.end();
    }
}
