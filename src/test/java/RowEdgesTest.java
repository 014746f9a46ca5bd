/** What the document names as edges of rows and numbers: the sentences of part 1 and of promises 1 to 7. */
final class RowEdgesTest {
    private static final Check CHECK = new Check();

    private static void lastCall() {
        CHECK.sentence("An object is used for at most 512 calls");
        Rootrows x = new Rootrows();
        x.make(3, 16);
        x.set(3, 0, 65536);
        for (int call = 3; call <= 510; call++) {
            x.shift(3, 1);
        }
        CHECK.same("call 511", x.shift(3, 4), 65536);
        CHECK.same("call 512", x.number(3, 0), 65536);
    }

    private static void newObject() {
        CHECK.sentence("Promise 1, all rows have the LENGTH 2 and numbers 0; ODD is 1");
        for (int row = 0; row < 4; row++) {
            CHECK.row("row " + row, new Rootrows(), row, 0, 0);
        }
        CHECK.same("root(16)", new Rootrows().root(16), 4);
        CHECK.same("useOdd(31)", new Rootrows().useOdd(31), 1);
    }

    private static void objectsOfTheirOwn() {
        CHECK.sentence("Promise 1, also after another object was changed");
        Rootrows other = new Rootrows();
        other.useOdd(31);
        for (int row = 0; row < 4; row++) {
            Check.put(other, row, Check.mixed(16, row));
        }
        newObject();
        CHECK.row("the other object", other, 3, Check.mixed(16, 3));
    }

    private static void firstAndLastRow() {
        CHECK.sentence("Part 1, there are the rows 0 to 3");
        Rootrows x = new Rootrows();
        for (int row = 0; row < 4; row++) {
            Check.put(x, row, Check.mixed(2 << row, row));
        }
        for (int row = 0; row < 4; row++) {
            CHECK.row("row " + row, x, row, Check.mixed(2 << row, row));
        }
        for (int row : Check.NO_ROWS) {
            CHECK.refuses("length(" + row + ")", x, Check.PLACE, () -> x.length(row));
        }
    }

    private static void leastAndGreatestNumber() {
        CHECK.sentence("Part 1, NUMBERS are 0 to 65536");
        for (int n : Check.LENGTHS) {
            Rootrows x = Check.with(Check.ramp(n));
            for (int place : new int[] {0, n - 1}) {
                CHECK.allows("set 65536", () -> x.set(0, place, 65536));
                CHECK.same("the number", x.number(0, place), 65536);
                CHECK.allows("set 0", () -> x.set(0, place, 0));
                CHECK.same("the number", x.number(0, place), 0);
                CHECK.refuses("set -1", x, Check.ARGUMENT, () -> x.set(0, place, -1));
                CHECK.refuses("set 65537", x, Check.ARGUMENT, () -> x.set(0, place, 65537));
                CHECK.refuses("set the least", x, Check.ARGUMENT, () -> x.set(0, place, Integer.MIN_VALUE));
                CHECK.refuses("set the greatest", x, Check.ARGUMENT, () -> x.set(0, place, Integer.MAX_VALUE));
            }
        }
    }

    private static void wrapAround() {
        CHECK.sentence("Part 1, sums, differences and products are told by what 65537 leaves of them");
        Rootrows x = Check.with(65536, 65536, 0, 65535);
        Check.put(x, 1, 1, 65536, 65536, 1);
        x.copy(0, 2);
        x.combine(2, 1, '+');
        CHECK.row("sums", x, 2, 0, 65535, 65536, 65536);
        x.copy(0, 2);
        x.combine(2, 1, '-');
        CHECK.row("differences", x, 2, 65535, 0, 1, 65534);
        x.copy(0, 2);
        x.combine(2, 1, '*');
        CHECK.row("products", x, 2, 65536, 1, 0, 65535);
    }

    private static boolean isLength(int length) {
        return length == 2 || length == 4 || length == 8 || length == 16;
    }

    private static void lengthOrNone(int length) {
        Rootrows x = Check.with(1, 2);
        Check.put(x, 3, 3, 4);
        if (isLength(length)) {
            CHECK.allows("make(3, " + length + ")", () -> x.make(3, length));
            CHECK.row("made", x, 3, new int[length]);
        } else {
            CHECK.refuses("make(3, " + length + ")", x, Check.ARGUMENT, () -> x.make(3, length));
        }
    }

    private static void makeLengths() {
        CHECK.sentence("Promise 2, length: 2, 4, 8 or 16");
        for (int length = -40; length <= 70; length++) {
            lengthOrNone(length);
        }
        for (int bit = 5; bit < 32; bit++) {
            lengthOrNone(1 << bit);
            lengthOrNone((1 << bit) + 2);
            lengthOrNone((1 << bit) + 16);
        }
        lengthOrNone(Integer.MAX_VALUE);
    }

    private static void makeSameAgain() {
        CHECK.sentence("Promise 2, or the same one again; all its numbers are 0 then; returns the LENGTH before");
        for (int n : Check.LENGTHS) {
            Rootrows x = Check.with(Check.all(n, 65536));
            CHECK.same("make", x.make(0, n), n);
            CHECK.row("made", x, 0, new int[n]);
        }
    }

    private static void makeFromEachToEach() {
        CHECK.sentence("Promise 2, another LENGTH; all its numbers are 0 then; returns the LENGTH before");
        for (int n : Check.LENGTHS) {
            for (int to : Check.LENGTHS) {
                Rootrows x = Check.with(Check.all(n, 65536));
                Check.put(x, 1, 7, 8);
                CHECK.same("make", x.make(0, to), n);
                CHECK.row("made", x, 0, new int[to]);
                CHECK.same("make back", x.make(0, n), to);
                CHECK.row("made back", x, 0, new int[n]);
                CHECK.row("another row", x, 1, 7, 8);
            }
        }
    }

    private static void setFirstAndLast() {
        CHECK.sentence("Promise 3, place: the place; returns what was there");
        for (int n : Check.LENGTHS) {
            Rootrows x = Check.with(Check.all(n, 5));
            int[] due = Check.all(n, 5);
            CHECK.same("set the first", x.set(0, 0, 65536), 5);
            due[0] = 65536;
            CHECK.row("after it", x, 0, due);
            CHECK.same("set the last", x.set(0, n - 1, 9), 5);
            due[n - 1] = 9;
            CHECK.row("after it", x, 0, due);
            CHECK.same("set the same again", x.set(0, n - 1, 9), 9);
            CHECK.row("after it", x, 0, due);
        }
    }

    private static void setBeyond() {
        CHECK.sentence("Promise 3, throws IndexOutOfBoundsException if there is no such row or place");
        for (int n : Check.LENGTHS) {
            Rootrows x = Check.with(Check.all(16, 5));
            Check.put(x, 0, Check.ramp(n));
            for (int place : new int[] {Integer.MIN_VALUE, -n, -1, n, n + 1, 16, 17, Integer.MAX_VALUE}) {
                CHECK.refuses("set at " + place + " of " + n, x, Check.PLACE, () -> x.set(0, place, 1));
            }
        }
    }

    private static void fillFromFirst() {
        CHECK.sentence("Promise 4, from: 0");
        for (int n : Check.LENGTHS) {
            Rootrows x = Check.with(Check.ramp(n));
            CHECK.same("fill", x.fill(0, 0, 65536), n);
            CHECK.row("filled", x, 0, Check.all(n, 65536));
            CHECK.same("fill with 0", x.fill(0, 0, 0), n);
            CHECK.row("filled with 0", x, 0, new int[n]);
        }
    }

    private static void fillFromLast() {
        CHECK.sentence("Promise 4, from one on, up to the last one");
        for (int n : Check.LENGTHS) {
            Rootrows x = Check.with(Check.ramp(n));
            int[] due = Check.ramp(n);
            CHECK.same("fill", x.fill(0, n - 1, 0), 1);
            due[n - 1] = 0;
            CHECK.row("filled", x, 0, due);
        }
    }

    private static void fillNothing() {
        CHECK.sentence("Promise 4, from: to the LENGTH (then nothing is put)");
        for (int n : Check.LENGTHS) {
            Rootrows x = Check.with(Check.ramp(16));
            Check.put(x, 0, Check.ramp(n));
            CHECK.leaves("fill none", x, () -> CHECK.same("fill none", x.fill(0, n, 65536), 0));
            CHECK.leaves("fill none", x, () -> CHECK.same("fill none", x.fill(0, n, 0), 0));
            CHECK.refuses("fill from beyond", x, Check.PLACE, () -> x.fill(0, n + 1, 0));
            CHECK.refuses("fill from -1", x, Check.PLACE, () -> x.fill(0, -1, 0));
            CHECK.refuses("fill from the least", x, Check.PLACE, () -> x.fill(0, Integer.MIN_VALUE, 0));
            CHECK.refuses("fill from the greatest", x, Check.PLACE, () -> x.fill(0, Integer.MAX_VALUE, 0));
        }
    }

    private static void fillNothingWithNoNumber() {
        CHECK.sentence("Promise 4, throws IllegalArgumentException if the number is out of range");
        for (int n : Check.LENGTHS) {
            for (int number : Check.FAR) {
                Rootrows x = Check.with(Check.ramp(n));
                CHECK.refuses("fill all with " + number, x, Check.ARGUMENT, () -> x.fill(0, 0, number));
                CHECK.refuses("fill none with " + number, x, Check.ARGUMENT, () -> x.fill(0, n, number));
            }
        }
    }

    private static void fillCounts() {
        CHECK.sentence("Promise 4, returns at how many places another number stands then");
        for (int n : Check.LENGTHS) {
            Rootrows x = Check.with(Check.all(n, 3));
            CHECK.same("fill with what stands", x.fill(0, 0, 3), 0);
            x.set(0, 0, 4);
            CHECK.same("all but the first stand", x.fill(0, 0, 3), 1);
            x.set(0, n - 1, 4);
            CHECK.same("all but the last stand", x.fill(0, 0, 3), 1);
            x.set(0, 0, 4);
            CHECK.same("the first is not filled", x.fill(0, 1, 3), 0);
            CHECK.same("from the first", x.fill(0, 0, 3), 1);
        }
    }

    private static void copyItself() {
        CHECK.sentence("Promise 5, row and into are the same");
        for (int n : Check.LENGTHS) {
            Rootrows x = Check.with(Check.mixed(n, 1));
            CHECK.leaves("copy(0, 0)", x, () -> CHECK.same("copy(0, 0)", x.copy(0, 0), false));
        }
    }

    private static void copyFromEachToEach() {
        CHECK.sentence("Promise 5, its LENGTH and its numbers; whether into is another row then: another LENGTH");
        for (int n : Check.LENGTHS) {
            for (int to : Check.LENGTHS) {
                Rootrows x = new Rootrows();
                x.make(0, n);
                x.make(3, to);
                CHECK.same("copy of zeros", x.copy(0, 3), n != to);
                CHECK.row("zeros", x, 3, new int[n]);
                Check.put(x, 3, Check.all(to, 65536));
                Check.put(x, 0, Check.ramp(n));
                CHECK.same("copy", x.copy(0, 3), true);
                CHECK.row("copied", x, 3, Check.ramp(n));
                CHECK.row("the row that is read", x, 0, Check.ramp(n));
                x.make(0, 2);
                CHECK.row("the copy is a row of its own", x, 3, Check.ramp(n));
            }
        }
    }

    private static void copyAnotherNumber() {
        CHECK.sentence("Promise 5, or another number at a place");
        for (int n : Check.LENGTHS) {
            for (int place = 0; place < n; place++) {
                Rootrows x = Check.with(Check.ramp(n));
                x.copy(0, 1);
                CHECK.same("copy of a row alike", x.copy(0, 1), false);
                x.set(1, place, 65536);
                CHECK.same("copy with another at " + place, x.copy(0, 1), true);
                CHECK.row("copied", x, 1, Check.ramp(n));
            }
        }
    }

    private static void copyBehindTheLength() {
        CHECK.sentence("Promise 5, what stood behind the LENGTH does not count");
        Rootrows x = Check.with(Check.all(16, 7));
        Check.put(x, 0, 1, 2);
        Check.put(x, 1, 1, 2);
        CHECK.same("copy", x.copy(0, 1), false);
        x.digits(2, -1);
        Check.put(x, 2, 1, 2);
        CHECK.same("copy", x.copy(2, 0), false);
    }

    private static void lengthAnswers() {
        CHECK.sentence("Promise 6, returns the LENGTH of a row");
        for (int n : Check.LENGTHS) {
            Rootrows x = new Rootrows();
            x.make(0, n);
            x.make(3, n);
            CHECK.leaves("length", x, () -> CHECK.same("length(0)", x.length(0), n));
            CHECK.leaves("length", x, () -> CHECK.same("length(3)", x.length(3), n));
            CHECK.same("length(1)", x.length(1), 2);
        }
    }

    private static void numberFirstAndLast() {
        CHECK.sentence("Promise 7, returns the number");
        for (int n : Check.LENGTHS) {
            Rootrows x = Check.with(Check.all(16, 5));
            Check.put(x, 0, Check.ramp(n));
            CHECK.leaves("number", x, () -> CHECK.same("the first", x.number(0, 0), 1));
            CHECK.leaves("number", x, () -> CHECK.same("the last", x.number(0, n - 1), n));
        }
    }

    private static void numberBeyond() {
        CHECK.sentence("Promise 7, throws IndexOutOfBoundsException if there is no such row or place");
        for (int n : Check.LENGTHS) {
            Rootrows x = Check.with(Check.all(16, 5));
            Check.put(x, 0, Check.ramp(n));
            for (int place : new int[] {Integer.MIN_VALUE, -n, -1, n, n + 1, 16, 17, Integer.MAX_VALUE}) {
                CHECK.refuses("number at " + place + " of " + n, x, Check.PLACE, () -> x.number(0, place));
            }
        }
    }

    private static void noneIs() {
        CHECK.sentence("The constants, NONE = -1");
        CHECK.same("NONE", Rootrows.NONE, -1);
    }

    public static void main(String[] args) {
        lastCall();
        newObject();
        objectsOfTheirOwn();
        firstAndLastRow();
        leastAndGreatestNumber();
        wrapAround();
        makeLengths();
        makeSameAgain();
        makeFromEachToEach();
        setFirstAndLast();
        setBeyond();
        fillFromFirst();
        fillFromLast();
        fillNothing();
        fillNothingWithNoNumber();
        fillCounts();
        copyItself();
        copyFromEachToEach();
        copyAnotherNumber();
        copyBehindTheLength();
        lengthAnswers();
        numberFirstAndLast();
        numberBeyond();
        noneIs();
        CHECK.end();
    }
}
