/** What the document names as edges of changing rows and of asking them: the sentences of promises 21 to 32. */
final class ChangeEdgesTest {
    private static final Check CHECK = new Check();

    /** The least and the greatest ints, those about 0, and those about the LENGTH. */
    private static int[] anyNumbers(int n) {
        return new int[] {Integer.MIN_VALUE, Integer.MIN_VALUE + 1, -65536, -2 * n, -n - 1, -n, 1 - n, -1, 0, 1, n - 1,
            n, n + 1, 2 * n, 65535, 65536, Integer.MAX_VALUE - 1, Integer.MAX_VALUE};
    }

    private static void shiftAnyNumber() {
        CHECK.sentence("Promise 21, by: any number, also below 0: back then; behind the last place from place 0 on");
        for (int n : Check.LENGTHS) {
            for (int by : anyNumbers(n)) {
                Rootrows x = Check.with(Check.ramp(n));
                int[] due = new int[n];
                for (int i = 0; i < n; i++) {
                    due[(int) Math.floorMod((long) i + by, (long) n)] = i + 1;
                }
                CHECK.same("shift by " + by, x.shift(0, by), due[0]);
                CHECK.row("shift by " + by, x, 0, due);
            }
        }
    }

    private static void shiftByOne() {
        CHECK.sentence("Promise 21, returns the number at place 0 then");
        for (int n : Check.LENGTHS) {
            Rootrows x = Check.with(Check.only(n, n - 1, 65536));
            CHECK.same("the last comes to place 0", x.shift(0, 1), 65536);
            CHECK.row("shifted", x, 0, Check.only(n, 0, 65536));
            CHECK.same("and back", x.shift(0, -1), 0);
            CHECK.row("shifted back", x, 0, Check.only(n, n - 1, 65536));
        }
    }

    private static void weighAnyNumber() {
        CHECK.sentence("Promise 22, by: any number, also below 0");
        for (int odd : new int[] {1, 15, 31}) {
            for (int n : Check.LENGTHS) {
                int w = Check.power(2, odd * 32 / n);
                for (int by : anyNumbers(n)) {
                    int[] row = Check.mixed(n, odd);
                    Rootrows x = Check.with(row);
                    x.useOdd(odd);
                    for (int i = 0; i < n; i++) {
                        int exponent = (int) Math.floorMod((long) by * i, (long) n);
                        row[i] = Check.reduced((long) row[i] * Check.power(w, exponent));
                    }
                    CHECK.same("weigh by " + by, x.weigh(0, by), row[1]);
                    CHECK.row("weigh by " + by, x, 0, row);
                }
            }
        }
    }

    private static void weighFirstPlace() {
        CHECK.sentence("Promise 22, the number at place 0 stays, and zeros stay; returns the number at place 1 then");
        for (int n : Check.LENGTHS) {
            for (int by : anyNumbers(n)) {
                Rootrows x = Check.with(Check.only(n, 0, 65536));
                CHECK.leaves("weigh", x, () -> CHECK.same("weigh", x.weigh(0, by), 0));
            }
            Rootrows ones = Check.with(Check.all(n, 1));
            CHECK.same("weigh by 1", ones.weigh(0, 1), ones.root(n));
            CHECK.same("weigh by -1", ones.weigh(0, -1), 1);
            CHECK.row("weighed and back", ones, 0, Check.all(n, 1));
        }
    }

    private static void turnRoundPlaces() {
        CHECK.sentence("Part 1, the number at the place 0 stays, and that at each other place i goes to n - i");
        for (int n : Check.LENGTHS) {
            for (int place = 0; place < n; place++) {
                Rootrows x = Check.with(Check.only(n, place, 65536));
                CHECK.same("turnRound", x.turnRound(0), place != 0 && place != n / 2);
                CHECK.row("turned round", x, 0, Check.only(n, place == 0 ? 0 : n - place, 65536));
            }
        }
    }

    private static void turnRoundAnswers() {
        CHECK.sentence("Promise 23, returns whether another number stands at a place then");
        CHECK.same("two numbers", Check.with(1, 65536).turnRound(0), false);
        CHECK.same("four numbers", Check.with(1, 2, 3, 65536).turnRound(0), true);
        for (int n : Check.LENGTHS) {
            CHECK.same("zeros", Check.with(new int[n]).turnRound(0), false);
            CHECK.same("all alike", Check.with(Check.all(n, 65536)).turnRound(0), false);
            int[] mirrored = Check.ramp(n);
            for (int i = 1; i < n; i++) {
                mirrored[i] = Math.min(i, n - i);
            }
            Rootrows x = Check.with(mirrored);
            CHECK.leaves("mirrored", x, () -> CHECK.same("mirrored", x.turnRound(0), false));
            x.set(0, n - 1, 65536);
            CHECK.same("all but the last mirrored", x.turnRound(0), n > 2);
        }
    }

    private static void combineSums() {
        CHECK.sentence("Promise 24, how: + for sums");
        for (int n : Check.LENGTHS) {
            Rootrows x = Check.with(Check.all(n, 65536));
            Check.put(x, 3, Check.all(n, 1));
            CHECK.same("65536 + 1", x.combine(0, 3, '+'), n);
            CHECK.row("65536 + 1", x, 0, new int[n]);
            CHECK.same("0 + 1", x.combine(0, 3, '+'), 0);
            CHECK.row("the other", x, 3, Check.all(n, 1));
            Check.put(x, 0, Check.all(n, 65536));
            CHECK.same("65536 + 65536", x.combine(0, 0, '+'), 0);
            CHECK.row("65536 + 65536", x, 0, Check.all(n, 65535));
        }
    }

    private static void combineDifferences() {
        CHECK.sentence("Promise 24, how: - for differences (of it less the other one)");
        for (int n : Check.LENGTHS) {
            Rootrows x = Check.with(Check.all(n, 0));
            Check.put(x, 3, Check.all(n, 1));
            CHECK.same("0 - 1", x.combine(0, 3, '-'), 0);
            CHECK.row("0 - 1", x, 0, Check.all(n, 65536));
            CHECK.same("1 - 65536", x.combine(3, 0, '-'), 0);
            CHECK.row("1 - 65536", x, 3, Check.all(n, 2));
            CHECK.row("the other", x, 0, Check.all(n, 65536));
            CHECK.same("less itself", x.combine(0, 0, '-'), n);
            CHECK.row("less itself", x, 0, new int[n]);
            Check.put(x, 1, Check.all(n, 65536));
            CHECK.same("0 - 65536", x.combine(0, 1, '-'), 0);
            CHECK.row("0 - 65536", x, 0, Check.all(n, 1));
        }
    }

    private static void combineProducts() {
        CHECK.sentence("Promise 24, how: * for products");
        for (int n : Check.LENGTHS) {
            Rootrows x = Check.with(Check.all(n, 65536));
            Check.put(x, 3, Check.all(n, 2));
            CHECK.same("65536 * 2", x.combine(3, 0, '*'), 0);
            CHECK.row("65536 * 2", x, 3, Check.all(n, 65535));
            CHECK.same("65536 * 65536", x.combine(0, 0, '*'), 0);
            CHECK.row("65536 * 65536", x, 0, Check.all(n, 1));
            x.make(0, n);
            CHECK.same("65535 * 0", x.combine(3, 0, '*'), n);
            CHECK.row("65535 * 0", x, 3, new int[n]);
        }
    }

    private static void combineEachPlace() {
        CHECK.sentence("Promise 24, place by place, to the last one");
        for (int n : Check.LENGTHS) {
            for (int place = 0; place < n; place++) {
                Rootrows x = Check.with(Check.all(n, 7));
                Check.put(x, 1, Check.only(n, place, 7));
                x.copy(0, 2);
                CHECK.same("differences", x.combine(0, 1, '-'), 1);
                CHECK.same("differences", x.number(0, place), 0);
                CHECK.same("products", x.combine(2, 1, '*'), n - 1);
                CHECK.row("products", x, 2, Check.only(n, place, 49));
                CHECK.same("sums", x.combine(0, 1, '+'), 0);
                CHECK.row("sums", x, 0, Check.all(n, 7));
            }
        }
    }

    private static void combineSigns() {
        CHECK.sentence("Promise 24, throws IllegalArgumentException if how is none of these signs");
        for (char how = 0; how < 300; how++) {
            combineSign(how);
        }
        combineSign(Character.MAX_VALUE);
    }

    private static void combineSign(char how) {
        Rootrows x = Check.with(Check.ramp(4));
        Check.put(x, 1, Check.mixed(4, 1));
        if (how == '+' || how == '-' || how == '*') {
            CHECK.allows("the sign " + how, () -> x.combine(0, 1, how));
        } else {
            CHECK.refuses("the sign " + (int) how, x, Check.ARGUMENT, () -> x.combine(0, 1, how));
        }
    }

    private static void multiplyRange() {
        CHECK.sentence("Promise 25, factor: 0 to 65536");
        for (int n : Check.LENGTHS) {
            Rootrows x = Check.with(Check.all(n, 65536));
            CHECK.same("by 1", x.multiply(0, 1), 0);
            CHECK.row("by 1", x, 0, Check.all(n, 65536));
            CHECK.same("by 65536", x.multiply(0, 65536), 0);
            CHECK.row("by 65536", x, 0, Check.all(n, 1));
            CHECK.same("by 65536 again", x.multiply(0, 65536), 0);
            CHECK.row("by 65536 again", x, 0, Check.all(n, 65536));
            for (int factor : Check.FAR) {
                CHECK.refuses("by " + factor, x, Check.ARGUMENT, () -> x.multiply(0, factor));
            }
            CHECK.same("by 0", x.multiply(0, 0), n);
            CHECK.row("by 0", x, 0, new int[n]);
            CHECK.same("zeros by 65536", x.multiply(0, 65536), n);
        }
    }

    private static void multiplyEachPlace() {
        CHECK.sentence("Promise 25, multiplies each number; returns how many of its numbers are 0");
        for (int n : Check.LENGTHS) {
            for (int place = 0; place < n; place++) {
                Rootrows x = Check.with(Check.only(n, place, 65536));
                CHECK.same("by 65535", x.multiply(0, 65535), n - 1);
                CHECK.row("by 65535", x, 0, Check.only(n, place, 2));
            }
        }
    }

    private static boolean isAfter(int after, int n) {
        return (after == 1 || after == 2 || after == 4 || after == 8 || after == 16) && after <= n;
    }

    private static void repeatRange() {
        CHECK.sentence("Promise 26, after: 1, 2, 4, 8 or 16, at most the LENGTH");
        for (int n : Check.LENGTHS) {
            for (int after = -40; after <= 70; after++) {
                Rootrows x = Check.with(Check.ramp(n));
                int told = after;
                if (isAfter(after, n)) {
                    CHECK.allows("after " + after, () -> x.repeat(0, told));
                } else {
                    CHECK.refuses("after " + after, x, Check.ARGUMENT, () -> x.repeat(0, told));
                }
            }
            Rootrows x = Check.with(Check.ramp(n));
            for (int after : new int[] {Integer.MIN_VALUE, Integer.MIN_VALUE + 1, 1 << 16, 1 << 30, Integer.MAX_VALUE}) {
                CHECK.refuses("after " + after, x, Check.ARGUMENT, () -> x.repeat(0, after));
            }
        }
    }

    private static void repeatEach() {
        CHECK.sentence("Promise 26, that which was at the place that i leaves divided by after; counts the others");
        for (int n : Check.LENGTHS) {
            for (int after = 1; after <= n; after *= 2) {
                Rootrows x = Check.with(Check.ramp(n));
                int[] due = new int[n];
                for (int i = 0; i < n; i++) {
                    due[i] = i % after + 1;
                }
                CHECK.same("after " + after, x.repeat(0, after), n - after);
                CHECK.row("after " + after, x, 0, due);
                CHECK.same("again", x.repeat(0, after), 0);
            }
        }
    }

    private static void repeatTheLength() {
        CHECK.sentence("Promise 26, after the LENGTH itself, and of rows of zeros");
        for (int n : Check.LENGTHS) {
            Rootrows x = Check.with(Check.mixed(n, 7));
            CHECK.leaves("after " + n, x, () -> CHECK.same("after " + n, x.repeat(0, n), 0));
            Rootrows zeros = Check.with(new int[n]);
            CHECK.leaves("zeros", zeros, () -> CHECK.same("zeros", zeros.repeat(0, 1), 0));
            zeros.set(0, n - 1, 65536);
            CHECK.same("the last alone", zeros.repeat(0, 1), 1);
            zeros.set(0, 0, 65536);
            CHECK.same("the first alone", zeros.repeat(0, 1), n - 1);
        }
    }

    private static int ownScale(int n) {
        return n == 2 ? 4080 : n == 4 ? 2 : n == 8 ? 8160 : 4;
    }

    private static void ownScales() {
        CHECK.sentence("Part 2, s be 4080 if n is 2, 2 if it is 4, 8160 if it is 8, 4 if it is 16 (s times s is n)");
        for (int n : Check.LENGTHS) {
            CHECK.same("s times s", Check.power(ownScale(n), 2), n);
            // The row e has 2 at place 0, so all its VALUES are 2.
            Rootrows x = Check.with(Check.only(n, 0, 1));
            int[] due = Check.all(n, 2);
            due[0] += 2 * ownScale(n);
            CHECK.same("own", x.own(0), 0);
            CHECK.row("own", x, 0, due);
        }
    }

    private static void ownOfOnePlace() {
        CHECK.sentence("Promise 27, of a number at each place alone, also the last one");
        for (int odd : new int[] {1, 3, 31}) {
            for (int n : Check.LENGTHS) {
                int w = Check.power(2, odd * 32 / n);
                for (int place = 1; place < n; place++) {
                    Rootrows x = Check.with(Check.only(n, place, 65536));
                    x.useOdd(odd);
                    int zeros = 0;
                    int[] due = new int[n];
                    for (int j = 0; j < n; j++) {
                        long e = (j == place ? -1 : 0) + (j == n - place ? -1 : 0);
                        long value = -(long) Check.power(w, place * j) - Check.power(w, (n - place) * j);
                        due[j] = Check.reduced(value + e * ownScale(n));
                        zeros += due[j] == 0 ? 1 : 0;
                    }
                    CHECK.same("own of place " + place, x.own(0), zeros);
                    CHECK.row("own of place " + place, x, 0, due);
                }
            }
        }
    }

    private static void ownOfZeros() {
        CHECK.sentence("Promise 27, rows whose OWN row is 0 everywhere; returns how many of its numbers are 0");
        for (int n : Check.LENGTHS) {
            Rootrows x = Check.with(new int[n]);
            CHECK.same("own of zeros", x.own(0), n);
            CHECK.row("own of zeros", x, 0, new int[n]);
        }
        // Its number at place 3 is -1 times that at place 1, so that e is 0 everywhere.
        Rootrows x = Check.with(0, 1, 0, 65536);
        CHECK.same("own of 0, 1, 0, 65536", x.own(0), 4);
        CHECK.row("own of 0, 1, 0, 65536", x, 0, 0, 0, 0, 0);
    }

    private static void periodEach() {
        CHECK.sentence("Promise 28, the least of 1, 2, 4, 8 and 16; the LENGTH if it is no lesser one");
        for (int n : Check.LENGTHS) {
            for (int after = 1; after <= n; after *= 2) {
                Rootrows x = Check.with(Check.ramp(n));
                x.repeat(0, after);
                int due = after;
                CHECK.leaves("period", x, () -> CHECK.same("period", x.period(0), due));
            }
            CHECK.same("period of zeros", Check.with(new int[n]).period(0), 1);
            CHECK.same("period of 65536", Check.with(Check.all(n, 65536)).period(0), 1);
        }
    }

    private static void periodOneOther() {
        CHECK.sentence("Promise 28, each number is also that so many places on (behind the last place from place 0 on)");
        for (int n : Check.LENGTHS) {
            for (int place = 0; place < n; place++) {
                Rootrows x = Check.with(Check.only(n, place, 65536));
                CHECK.same("one other at " + place, x.period(0), n);
                x.set(0, (place + n / 2) % n, 65536);
                CHECK.same("two others", x.period(0), n / 2);
            }
        }
        CHECK.same("1, 1, 2, 2", Check.with(1, 1, 2, 2).period(0), 4);
        CHECK.same("1, 2, 2, 1", Check.with(1, 2, 2, 1).period(0), 4);
        CHECK.same("three by three is no period", Check.with(1, 2, 3, 1, 2, 3, 1, 2).period(0), 8);
    }

    private static void factorOfZeros() {
        CHECK.sentence("Promise 29, the least number, of a row of zeros, which each number makes its VALUES");
        for (int n : Check.LENGTHS) {
            Rootrows x = Check.with(new int[n]);
            CHECK.leaves("factor", x, () -> CHECK.same("factor", x.factor(0), 0));
        }
    }

    private static void factorNone() {
        CHECK.sentence("Promise 29, NONE if there is none");
        for (int n : Check.LENGTHS) {
            for (int place = 0; place < n; place++) {
                Rootrows x = Check.with(Check.only(n, place, 1));
                CHECK.leaves("one place", x, () -> CHECK.same("one place", x.factor(0), Rootrows.NONE));
            }
            CHECK.same("all alike", Check.with(Check.all(n, 65536)).factor(0), Rootrows.NONE);
        }
    }

    private static void factorOfOwn() {
        CHECK.sentence("(10), the VALUES of the OWN row are that row's numbers, each times s");
        for (int odd = 1; odd <= 31; odd += 2) {
            for (int n : Check.LENGTHS) {
                Rootrows x = Check.with(Check.mixed(n, 2 * odd));
                x.useOdd(odd);
                x.own(0);
                CHECK.leaves("factor", x, () -> CHECK.same("factor", x.factor(0), ownScale(n)));
                x.set(0, n - 1, Check.reduced(x.number(0, n - 1) + 1));
                CHECK.same("with another last number", x.factor(0), Rootrows.NONE);
            }
        }
    }

    private static void factorBelowZero() {
        CHECK.sentence("Promise 29, a factor that is - s");
        for (int n : Check.LENGTHS) {
            // VALUES of e less s times e, e being 1 at place 0.
            int[] row = Check.all(n, 1);
            row[0] = Check.reduced(1 - ownScale(n));
            CHECK.same("factor", Check.with(row).factor(0), 65537 - ownScale(n));
        }
    }

    private static void factorFirstNumberZero() {
        CHECK.sentence("Promise 29, a row whose first number is 0");
        for (int n : new int[] {8, 16}) {
            for (int sign : new int[] {1, -1}) {
                // Of a row that is -1 times itself TURNED ROUND, the VALUES of the VALUES are - n times it: so those
                // of its VALUES with r times it, r times r being - n, are r times that.
                int r = Check.reduced(sign * 256L * ownScale(n));
                int[] row = new int[n];
                row[1] = 1;
                row[n - 1] = 65536;
                Rootrows x = Check.with(row);
                x.copy(0, 1);
                x.values(1, false);
                x.multiply(0, r);
                x.combine(0, 1, '+');
                CHECK.same("its first number", x.number(0, 0), 0);
                CHECK.same("factor of " + n, x.factor(0), r);
            }
        }
    }

    private static void sumPlaces() {
        CHECK.sentence("Promise 30, with place 0 stands its place 0, with place i its place n - i");
        for (int n : Check.LENGTHS) {
            for (int i = 0; i < n; i++) {
                for (int j = 0; j < n; j++) {
                    Rootrows x = Check.with(Check.only(n, i, 65536));
                    Check.put(x, 3, Check.only(n, j, 2));
                    CHECK.same("sum", x.sum(0, 3, false), i == j ? 65535 : 0);
                    CHECK.same("sum back", x.sum(0, 3, true), (i + j) % n == 0 ? 65535 : 0);
                }
            }
        }
    }

    private static void sumGreatest() {
        CHECK.sentence("Promise 30, of zeros, and of 65536 at all places, with itself");
        for (boolean isBack : new boolean[] {false, true}) {
            for (int n : Check.LENGTHS) {
                Rootrows x = Check.with(Check.all(n, 65536));
                Check.put(x, 1, Check.all(n, 1));
                Check.put(x, 2, new int[n]);
                CHECK.leaves("sum", x, () -> CHECK.same("with itself", x.sum(0, 0, isBack), n));
                CHECK.same("with 1", x.sum(0, 1, isBack), 65537 - n);
                CHECK.same("with 0", x.sum(0, 2, isBack), 0);
            }
        }
    }

    private static void sumUnlike() {
        CHECK.sentence("Promises 24 and 30, throws IllegalStateException if their LENGTHS are unlike");
        for (int n : Check.LENGTHS) {
            for (int m : Check.LENGTHS) {
                if (n != m) {
                    Rootrows x = Check.with(Check.ramp(n));
                    Check.put(x, 3, Check.ramp(m));
                    CHECK.refuses("sum", x, Check.STATE, () -> x.sum(0, 3, false));
                    CHECK.refuses("sum back", x, Check.STATE, () -> x.sum(0, 3, true));
                    CHECK.refuses("combine +", x, Check.STATE, () -> x.combine(0, 3, '+'));
                    CHECK.refuses("combine -", x, Check.STATE, () -> x.combine(0, 3, '-'));
                    CHECK.refuses("combine *", x, Check.STATE, () -> x.combine(0, 3, '*'));
                }
            }
        }
    }

    private static void meanPlainSum() {
        CHECK.sentence("Promise 31, their plain sum (which is not divided by 65537)");
        for (int n : Check.LENGTHS) {
            Rootrows x = Check.with(Check.all(n, 65536));
            CHECK.leaves("mean", x, () -> CHECK.same("mean of 65536", x.mean(0), 65536.0));
            CHECK.same("mean of zeros", Check.with(new int[n]).mean(0), 0.0);
            CHECK.same("mean of 1 at the first", Check.with(Check.only(n, 0, 1)).mean(0), 1.0 / n);
            CHECK.same("mean of 65535 at the last", Check.with(Check.only(n, n - 1, 65535)).mean(0), 65535.0 / n);
        }
        CHECK.same("mean of 1, 65536", Check.with(1, 65536).mean(0), 32768.5);
    }

    private static void zerosShare() {
        CHECK.sentence("Promise 32, how many of them are 0, divided by the LENGTH: none, one, all but one, and all");
        for (int n : Check.LENGTHS) {
            Rootrows x = Check.with(Check.all(n, 65536));
            CHECK.leaves("zeros", x, () -> CHECK.same("none", x.zeros(0), 0.0f));
            x.set(0, n - 1, 0);
            CHECK.same("the last", x.zeros(0), 1.0f / n);
            CHECK.same("all but the first", Check.with(Check.only(n, 0, 1)).zeros(0), (n - 1.0f) / n);
            CHECK.same("all", Check.with(new int[n]).zeros(0), 1.0f);
        }
    }

    public static void main(String[] args) {
        shiftAnyNumber();
        shiftByOne();
        weighAnyNumber();
        weighFirstPlace();
        turnRoundPlaces();
        turnRoundAnswers();
        combineSums();
        combineDifferences();
        combineProducts();
        combineEachPlace();
        combineSigns();
        multiplyRange();
        multiplyEachPlace();
        repeatRange();
        repeatEach();
        repeatTheLength();
        ownScales();
        ownOfOnePlace();
        ownOfZeros();
        periodEach();
        periodOneOther();
        factorOfZeros();
        factorNone();
        factorOfOwn();
        factorBelowZero();
        factorFirstNumberZero();
        sumPlaces();
        sumGreatest();
        sumUnlike();
        meanPlainSum();
        zerosShare();
        CHECK.end();
    }
}
