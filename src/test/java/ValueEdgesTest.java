/** What the document names as edges of roots and values: the sentences of part 2 and of promises 8 to 14. */
final class ValueEdgesTest {
    private static final Check CHECK = new Check();
    private static final boolean[] WAYS = {false, true};

    private static void useOddRange() {
        CHECK.sentence("Promise 8, odd: an odd number from 1 to 31");
        for (int odd = -70; odd <= 100; odd++) {
            oddOrNone(odd);
        }
        for (int odd : new int[] {Integer.MIN_VALUE, Integer.MIN_VALUE + 1, Integer.MAX_VALUE - 1, Integer.MAX_VALUE}) {
            oddOrNone(odd);
        }
    }

    private static void oddOrNone(int odd) {
        Rootrows x = Check.with(1, 2);
        if (odd >= 1 && odd <= 31 && odd % 2 == 1) {
            CHECK.allows("useOdd(" + odd + ")", () -> x.useOdd(odd));
            CHECK.same("ODD after it", x.useOdd(1), odd);
        } else {
            CHECK.refuses("useOdd(" + odd + ")", x, Check.ARGUMENT, () -> x.useOdd(odd));
            CHECK.same("ODD after it", x.useOdd(1), 1);
        }
    }

    private static void useOddAnswers() {
        CHECK.sentence("Promise 8, returns ODD before");
        Rootrows x = new Rootrows();
        CHECK.same("the least, the same again", x.useOdd(1), 1);
        CHECK.same("the greatest", x.useOdd(31), 1);
        CHECK.same("the greatest again", x.useOdd(31), 31);
        CHECK.refuses("the next one", x, Check.ARGUMENT, () -> x.useOdd(33));
        CHECK.refuses("an even one", x, Check.ARGUMENT, () -> x.useOdd(2));
        CHECK.same("after what was refused", x.useOdd(17), 31);
        CHECK.same("17", x.useOdd(1), 17);
    }

    private static void useOddLeavesRows() {
        CHECK.sentence("Promise 8, tells ODD, and nothing of the rows");
        Rootrows x = Check.with(Check.mixed(16, 1));
        x.useOdd(31);
        CHECK.row("the row", x, 0, Check.mixed(16, 1));
    }

    private static void rootsOfEachOdd() {
        CHECK.sentence("Part 2, the ROOT w of n is 2 to the power of ODD times 32 / n");
        for (int odd = 1; odd <= 31; odd += 2) {
            Rootrows x = new Rootrows();
            x.useOdd(odd);
            for (int n : Check.LENGTHS) {
                CHECK.same("root(" + n + ") by " + odd, x.root(n), Check.power(2, odd * 32 / n));
            }
        }
    }

    private static void rootsToN() {
        CHECK.sentence("Part 2, w to the power of n is 1, of n / 2 is 65536, and w times w the ROOT of n / 2 (1, if 2)");
        for (int odd = 1; odd <= 31; odd += 2) {
            Rootrows x = new Rootrows();
            x.useOdd(odd);
            for (int n : Check.LENGTHS) {
                int w = x.root(n);
                CHECK.same("to n", Check.power(w, n), 1);
                CHECK.same("to n / 2", Check.power(w, n / 2), 65536);
                CHECK.same("times itself", Check.power(w, 2), n == 2 ? 1 : x.root(n / 2));
            }
        }
    }

    private static boolean isLength(int length) {
        return length == 2 || length == 4 || length == 8 || length == 16;
    }

    private static void rootLengths() {
        CHECK.sentence("Promise 9, throws IllegalArgumentException if length is none of these");
        for (int length = -40; length <= 70; length++) {
            rootOrNone(length);
        }
        for (int length : Check.NO_LENGTHS) {
            rootOrNone(length);
        }
    }

    private static void rootOrNone(int length) {
        Rootrows x = Check.with(1, 2);
        if (isLength(length)) {
            CHECK.leaves("root(" + length + ")", x, () -> x.root(length));
        } else {
            CHECK.refuses("root(" + length + ")", x, Check.ARGUMENT, () -> x.root(length));
        }
    }

    private static void powerLengths() {
        CHECK.sentence("Promise 10, throws IllegalArgumentException if length is none of these");
        for (int exponent : new int[] {Integer.MIN_VALUE, -1, 0, 1, Integer.MAX_VALUE}) {
            for (int length : Check.NO_LENGTHS) {
                Rootrows x = new Rootrows();
                CHECK.refuses("power(" + length + ")", x, Check.ARGUMENT, () -> x.power(length, exponent));
            }
            for (int length : Check.LENGTHS) {
                Rootrows x = new Rootrows();
                CHECK.leaves("power(" + length + ")", x, () -> x.power(length, exponent));
            }
        }
    }

    private static void powerFromZeroToN() {
        CHECK.sentence("Promise 10, exponents from 0 to n - 1");
        for (int odd = 1; odd <= 31; odd += 2) {
            Rootrows x = new Rootrows();
            x.useOdd(odd);
            for (int n : Check.LENGTHS) {
                for (int exponent = 0; exponent < n; exponent++) {
                    CHECK.same("power(" + n + ", " + exponent + ") by " + odd, x.power(n, exponent),
                            Check.power(x.root(n), exponent));
                }
            }
        }
    }

    private static void powerRound() {
        CHECK.sentence("Part 2, a power with an exponent below 0, or of n or more");
        Rootrows x = new Rootrows();
        for (int odd : new int[] {1, 7, 31}) {
            x.useOdd(odd);
            for (int n : Check.LENGTHS) {
                CHECK.same("of -1", x.power(n, -1), x.power(n, n - 1));
                CHECK.same("of 1 - n", x.power(n, 1 - n), x.power(n, 1));
                CHECK.same("of -n", x.power(n, -n), 1);
                CHECK.same("of -n - 1", x.power(n, -n - 1), x.power(n, n - 1));
                CHECK.same("of n", x.power(n, n), 1);
                CHECK.same("of n + 1", x.power(n, n + 1), x.root(n));
                CHECK.same("of 2 n - 1", x.power(n, 2 * n - 1), x.power(n, n - 1));
            }
        }
    }

    private static void powerFarOut() {
        CHECK.sentence("Promise 10, exponent: any number, also below 0");
        for (int odd = 1; odd <= 31; odd += 2) {
            Rootrows x = new Rootrows();
            x.useOdd(odd);
            for (int n : Check.LENGTHS) {
                for (int on = 0; on < 20; on++) {
                    int high = Integer.MAX_VALUE - on;
                    int low = Integer.MIN_VALUE + on;
                    CHECK.same("of " + high, x.power(n, high), x.power(n, Math.floorMod(high, n)));
                    CHECK.same("of " + low, x.power(n, low), x.power(n, Math.floorMod(low, n)));
                }
            }
        }
    }

    private static void values(String what, Rootrows x, int zeros, int... due) {
        for (boolean isHalved : WAYS) {
            x.copy(0, 1);
            CHECK.same(what + ", how many are 0", x.values(1, isHalved), zeros);
            CHECK.row(what, x, 1, due);
        }
    }

    private static void valuesOfZeros() {
        CHECK.sentence("Promise 11, a row of zeros; returns how many of them are 0");
        for (int n : Check.LENGTHS) {
            values("values of zeros", Check.with(new int[n]), n, new int[n]);
        }
    }

    private static void valuesOfFirstPlace() {
        CHECK.sentence("Promise 11, a number at the first place alone");
        for (int n : Check.LENGTHS) {
            values("values", Check.with(Check.only(n, 0, 65536)), 0, Check.all(n, 65536));
        }
    }

    private static void valuesOfOnePlace() {
        CHECK.sentence("Part 2, the value j is the sum of a(i) times w to the power of i j, also at the last place");
        for (int odd = 1; odd <= 31; odd += 2) {
            for (int n : Check.LENGTHS) {
                int w = Check.power(2, odd * 32 / n);
                for (int place = 0; place < n; place++) {
                    Rootrows x = Check.with(Check.only(n, place, 65536));
                    x.useOdd(odd);
                    int[] due = new int[n];
                    for (int j = 0; j < n; j++) {
                        due[j] = Check.reduced(-Check.power(w, place * j));
                    }
                    values("values of place " + place + " by " + odd, x, 0, due);
                }
            }
        }
    }

    private static void valuesOfTheGreatest() {
        CHECK.sentence("Promise 11, 65536 at all places");
        for (int n : Check.LENGTHS) {
            values("values", Check.with(Check.all(n, 65536)), n - 1, Check.only(n, 0, 65537 - n));
        }
    }

    private static void valuesWrapAround() {
        CHECK.sentence("Promise 11, of two numbers, where sums and differences go round");
        values("values of 65536, 1", Check.with(65536, 1), 1, 0, 65535);
        values("values of 0, 65536", Check.with(0, 65536), 0, 65536, 1);
        values("values of 1, 1", Check.with(1, 1), 1, 2, 0);
        values("values of 32769, 32768", Check.with(32769, 32768), 1, 0, 1);
    }

    private static void valuesBothAlike() {
        CHECK.sentence("Promise 11, isHalved: both are alike");
        for (int odd = 1; odd <= 31; odd += 2) {
            for (int n : Check.LENGTHS) {
                Rootrows x = Check.with(Check.mixed(n, odd));
                x.useOdd(odd);
                x.copy(0, 1);
                CHECK.same("how many are 0", x.values(0, true), x.values(1, false));
                CHECK.row("by halving", x, 0, Check.numbers(x, 1));
            }
        }
    }

    private static void valuesLeaveOthers() {
        CHECK.sentence("Promise 11, makes a row its VALUES, and no other one");
        for (boolean isHalved : WAYS) {
            for (int row = 0; row < 4; row++) {
                Rootrows x = new Rootrows();
                for (int other = 0; other < 4; other++) {
                    Check.put(x, other, Check.mixed(2 << other, other));
                }
                x.values(row, isHalved);
                x.back(row);
                for (int other = 0; other < 4; other++) {
                    CHECK.row("row " + other, x, other, Check.mixed(2 << other, other));
                }
            }
        }
    }

    private static void backOfZeros() {
        CHECK.sentence("Promise 12, a row of zeros; returns how many of its numbers are 0");
        for (int n : Check.LENGTHS) {
            Rootrows x = new Rootrows();
            x.make(0, n);
            CHECK.same("back", x.back(0), n);
            CHECK.row("back", x, 0, new int[n]);
        }
    }

    private static void backMultiplied() {
        CHECK.sentence("Part 2, the BACK row is multiplied by the number that times n is 1");
        for (int n : Check.LENGTHS) {
            Rootrows x = Check.with(Check.only(n, 0, n));
            CHECK.same("back of n at place 0", x.back(0), 0);
            CHECK.row("back of n at place 0", x, 0, Check.all(n, 1));
            CHECK.same("back of 1 everywhere", x.back(0), n - 1);
            CHECK.row("back of 1 everywhere", x, 0, Check.only(n, 0, 1));
        }
    }

    private static void backOfOnePlace() {
        CHECK.sentence("Part 2, the BACK row is of w to the power of - i j, also of the last place");
        for (int odd = 1; odd <= 31; odd += 2) {
            for (int n : Check.LENGTHS) {
                int w = Check.power(2, odd * 32 / n);
                for (int place = 0; place < n; place++) {
                    Rootrows x = Check.with(Check.only(n, place, Check.reduced(-n)));
                    x.useOdd(odd);
                    x.back(0);
                    for (int i = 0; i < n; i++) {
                        CHECK.same("back at " + i, x.number(0, i), 65537 - Check.power(w, (n - place) * i));
                    }
                }
            }
        }
    }

    private static void backAndForth() {
        CHECK.sentence("(2), the BACK row of the VALUES is the row, and the VALUES of the BACK row are the row");
        for (int odd = 1; odd <= 31; odd += 2) {
            for (int n : Check.LENGTHS) {
                int[] due = Check.mixed(n, 2 * odd);
                due[0] = 65536;
                due[n - 1] = 0;
                Rootrows x = Check.with(due);
                x.useOdd(odd);
                x.values(0, false);
                x.back(0);
                CHECK.row("back of values", x, 0, due);
                x.back(0);
                x.values(0, false);
                CHECK.row("values of back", x, 0, due);
            }
        }
    }

    private static void valuesTwice() {
        CHECK.sentence("(3), the VALUES of the VALUES are the row TURNED ROUND, each number times n");
        for (boolean isHalved : WAYS) {
            for (int n : Check.LENGTHS) {
                Rootrows x = Check.with(Check.ramp(n));
                x.values(0, isHalved);
                x.values(0, isHalved);
                CHECK.same("place 0", x.number(0, 0), n);
                for (int i = 1; i < n; i++) {
                    CHECK.same("place " + i, x.number(0, i), n * (n - i + 1));
                }
            }
        }
    }

    private static void valueAtRange() {
        CHECK.sentence("Promise 13, at: 0 to 65536");
        for (int n : Check.LENGTHS) {
            int[] row = Check.ramp(n);
            Rootrows x = Check.with(row);
            CHECK.leaves("at 0", x, () -> CHECK.same("at 0", x.valueAt(0, 0), 1));
            CHECK.leaves("at 1", x, () -> CHECK.same("at 1", x.valueAt(0, 1), n * (n + 1) / 2));
            // 65536 is -1: the numbers are added and taken away by turns.
            CHECK.leaves("at 65536", x, () -> CHECK.same("at 65536", x.valueAt(0, 65536), 65537 - n / 2));
        }
    }

    private static void valueAtBeyond() {
        CHECK.sentence("Promise 13, throws IllegalArgumentException if at is out of range");
        for (int n : Check.LENGTHS) {
            for (int at : Check.FAR) {
                Rootrows x = Check.with(Check.ramp(n));
                CHECK.refuses("at " + at, x, Check.ARGUMENT, () -> x.valueAt(0, at));
            }
        }
    }

    private static void valueAtOfZeros() {
        CHECK.sentence("Promise 13, a row of zeros");
        for (int n : Check.LENGTHS) {
            Rootrows x = Check.with(new int[n]);
            for (int at : new int[] {0, 1, 2, 65535, 65536}) {
                CHECK.same("at " + at, x.valueAt(0, at), 0);
            }
        }
    }

    private static void valueAtLastPlace() {
        CHECK.sentence("Promise 13, that at place 2 times it times it, and so on, up to the last place");
        for (int n : Check.LENGTHS) {
            for (int place = 0; place < n; place++) {
                Rootrows x = Check.with(Check.only(n, place, 65536));
                for (int at : new int[] {0, 1, 2, 3, 256, 65535, 65536}) {
                    CHECK.same("at " + at, x.valueAt(0, at), Check.reduced(-Check.power(at, place)));
                }
            }
        }
    }

    private static void supportOfEachPlace() {
        CHECK.sentence("Promise 14, 2 to the power of each of these places");
        for (int n : Check.LENGTHS) {
            for (int place = 0; place < n; place++) {
                Rootrows x = Check.with(Check.only(n, place, 65536));
                x.useOdd(31);
                x.back(0);
                int due = 1 << place;
                CHECK.leaves("support", x, () -> CHECK.same("support", x.support(0), due));
            }
        }
    }

    private static void supportOfNoneAndAll() {
        CHECK.sentence("Promise 14, added up: of none, of all, and of all but one");
        for (int n : Check.LENGTHS) {
            int all = (1 << n) - 1;
            CHECK.same("support of zeros", Check.with(new int[n]).support(0), 0);
            CHECK.same("support of the first place", Check.with(Check.only(n, 0, 1)).support(0), all);
            CHECK.same("support of the last place", Check.with(Check.only(n, n - 1, 65536)).support(0), all);
            for (int place = 0; place < n; place++) {
                int[] values = Check.all(n, 1);
                values[place] = 0;
                Rootrows x = Check.with(values);
                x.back(0);
                CHECK.same("support of all but " + place, x.support(0), all - (1 << place));
            }
        }
    }

    public static void main(String[] args) {
        useOddRange();
        useOddAnswers();
        useOddLeavesRows();
        rootsOfEachOdd();
        rootsToN();
        rootLengths();
        powerLengths();
        powerFromZeroToN();
        powerRound();
        powerFarOut();
        valuesOfZeros();
        valuesOfFirstPlace();
        valuesOfOnePlace();
        valuesOfTheGreatest();
        valuesWrapAround();
        valuesBothAlike();
        valuesLeaveOthers();
        backOfZeros();
        backMultiplied();
        backOfOnePlace();
        backAndForth();
        valuesTwice();
        valueAtRange();
        valueAtBeyond();
        valueAtOfZeros();
        valueAtLastPlace();
        supportOfEachPlace();
        supportOfNoneAndAll();
        CHECK.end();
    }
}
