/** Promises 33 to 42: the theorem, and the whole. */
final class TheoremTest {
    private static final Check CHECK = new Check();

    private static void standsOfTwo(Rootrows x, int n, int factor) {
        long before = x.checksum();
        CHECK.stands("isProduct", x, x.isProduct(0, 1), before);
        CHECK.stands("isProduct of one", x, x.isProduct(1, 1), before);
        if (n < 16) {
            CHECK.stands("isPlain", x, x.isPlain(0, 1), before);
            CHECK.stands("isPlain of one", x, x.isPlain(0, 0), before);
        }
        CHECK.stands("isSum", x, x.isSum(0, 1, factor), before);
        CHECK.stands("isSum of one", x, x.isSum(0, 0, factor), before);
    }

    private static void standsOfOne(Rootrows x, int n, int by) {
        long before = x.checksum();
        CHECK.stands("isBack", x, x.isBack(0), before);
        CHECK.stands("isShifted", x, x.isShifted(0, by), before);
        for (int after = 1; after <= n; after *= 2) {
            CHECK.stands("isAgain", x, x.isAgain(0, after), before);
        }
        CHECK.stands("isOwn", x, x.isOwn(0), before);
        CHECK.stands("isInverse", x, x.isInverse(0), before);
        CHECK.stands("isSound", x, x.isSound(), before);
    }

    /** Rows of many kinds: of zeros, of 65536, that come again, with values that are 0, and mixed ones. */
    private static void promises33To41AlwaysTrue() {
        int[] bys = {0, 1, -1, 3, -5, 16, Integer.MIN_VALUE, Integer.MAX_VALUE};
        int[] factors = {0, 1, 2, 65535, 65536, 4080, 12345, 3};
        for (int odd = 1; odd <= 31; odd += 2) {
            for (int n : Check.LENGTHS) {
                for (int kind = 0; kind < 8; kind++) {
                    Rootrows x = new Rootrows();
                    x.useOdd(odd);
                    x.make(0, n);
                    x.make(1, n);
                    for (int i = 0; i < n; i++) {
                        int mixed = (i * i * 31337 + i * 77 + odd) % 65537;
                        int[] kinds = {0, 65536, i % 2 * 9, i == 0 ? 1 : 0, mixed, 65536 - mixed, i, i % (n / 2)};
                        x.set(0, i, kinds[kind]);
                        x.set(1, i, (mixed + i) % 65537);
                    }
                    standsOfOne(x, n, bys[kind]);
                    standsOfTwo(x, n, factors[kind]);
                }
            }
        }
    }

    private static void wrongRows() {
        for (int row : Check.NO_ROWS) {
            Rootrows x = Check.with(1, 2, 3, 4);
            CHECK.refuses("isBack of no row", x, Check.PLACE, () -> x.isBack(row));
            CHECK.refuses("isProduct of no row", x, Check.PLACE, () -> x.isProduct(row, 0));
            CHECK.refuses("isProduct with no row", x, Check.PLACE, () -> x.isProduct(0, row));
            CHECK.refuses("isPlain of no row", x, Check.PLACE, () -> x.isPlain(row, 0));
            CHECK.refuses("isPlain with no row", x, Check.PLACE, () -> x.isPlain(0, row));
            CHECK.refuses("isShifted of no row", x, Check.PLACE, () -> x.isShifted(row, 1));
            CHECK.refuses("isSum of no row", x, Check.PLACE, () -> x.isSum(row, 0, -1));
            CHECK.refuses("isSum with no row", x, Check.PLACE, () -> x.isSum(0, row, -1));
            CHECK.refuses("isAgain of no row", x, Check.PLACE, () -> x.isAgain(row, 3));
            CHECK.refuses("isOwn of no row", x, Check.PLACE, () -> x.isOwn(row));
            CHECK.refuses("isInverse of no row", x, Check.PLACE, () -> x.isInverse(row));
        }
    }

    private static void wrongLengths() {
        Rootrows x = Check.with(1, 2, 3, 4);
        CHECK.refuses("isProduct of unlike", x, Check.STATE, () -> x.isProduct(0, 1));
        CHECK.refuses("isPlain of unlike", x, Check.STATE, () -> x.isPlain(0, 1));
        CHECK.refuses("isSum of unlike", x, Check.STATE, () -> x.isSum(0, 1, 65536));
        x.make(2, 16);
        x.make(3, 16);
        CHECK.refuses("isPlain of 16", x, Check.STATE, () -> x.isPlain(2, 3));
        CHECK.refuses("isPlain of one of 16", x, Check.STATE, () -> x.isPlain(2, 2));
    }

    private static void wrongNumbers() {
        for (int factor : Check.FAR) {
            Rootrows x = Check.with(1, 2, 3, 4);
            CHECK.refuses("isSum by " + factor, x, Check.ARGUMENT, () -> x.isSum(0, 0, factor));
            CHECK.refuses("isSum of unlike by " + factor, x, Check.ARGUMENT, () -> x.isSum(0, 1, factor));
        }
        for (int after : new int[] {Integer.MIN_VALUE, -1, 0, 3, 5, 6, 7, 8, 16, 17, 32, Integer.MAX_VALUE}) {
            Rootrows x = Check.with(1, 2, 3, 4);
            CHECK.refuses("isAgain after " + after, x, Check.ARGUMENT, () -> x.isAgain(0, after));
        }
    }

    private static void promise42Checksum() {
        Rootrows x = new Rootrows();
        long due = 7 * 31 + 1;
        for (int row = 0; row < 4; row++) {
            due = (due * 31 + 2) * 31 * 31;
        }
        CHECK.same("checksum of a new object", x.checksum(), due);
        x.useOdd(7);
        Check.put(x, 0, 1, 65536);
        Check.put(x, 3, 4, 3, 2, 1);
        due = 7;
        for (int v : new int[] {7, 2, 1, 65536, 2, 0, 0, 2, 0, 0, 4, 4, 3, 2, 1}) {
            due = 31 * due + v;
        }
        CHECK.same("checksum", x.checksum(), due);
        CHECK.same("checksum again", x.checksum(), due);
        x.make(1, 16);
        x.fill(1, 0, 5);
        x.make(1, 2);
        CHECK.same("checksum after a longer row", x.checksum(), due);
    }

    public static void main(String[] args) {
        promises33To41AlwaysTrue();
        wrongRows();
        wrongLengths();
        wrongNumbers();
        promise42Checksum();
        CHECK.end();
    }
}
