import java.util.Arrays;

/** Rows of numbers turned into their values at the powers of a root, and back again. */
public final class Rootrows {
    /** There is none. */
    public static final int NONE = -1;

    private static final int PRIME = 65537;
    private static final int ROW_COUNT = 4;
    private static final int SHORTEST = 2;
    private static final int LONGEST = 16;
    private static final int GREATEST_ODD = 31;
    private static final int DIGITS_IN_NUMBER = 8;

    private final Row[] rows = new Row[ROW_COUNT];

    // Rows to reckon in: made once, so that no call makes an object of its own.
    private final Row left = new Row();
    private final Row right = new Row();
    private final Row mixed = new Row();
    private final Row wanted = new Row();
    private final Row found = new Row();
    // For halvedValues() alone, so that its callers may use all the others.
    private final Row parts = new Row();

    private int odd = 1;

    public Rootrows() {
        for (int i = 0; i < ROW_COUNT; i++) {
            rows[i] = new Row();
        }
    }

    // ---- rows

    public int make(int row, int length) throws IndexOutOfBoundsException, IllegalArgumentException {
        Row it = rowAt(row);
        needLength(length);
        int before = it.size;
        it.clear(length);
        return before;
    }

    public int set(int row, int place, int number) throws IndexOutOfBoundsException, IllegalArgumentException {
        Row it = rowAt(row);
        needPlace(it, place);
        needNumber(number);
        int before = it.numbers[place];
        it.numbers[place] = number;
        return before;
    }

    public int fill(int row, int from, int number) throws IndexOutOfBoundsException, IllegalArgumentException {
        Row it = rowAt(row);
        if (from < 0 || from > it.size) {
            throw new IndexOutOfBoundsException("from is out of range");
        }
        needNumber(number);
        found.take(it);
        for (int i = from; i < it.size; i++) {
            found.numbers[i] = number;
        }
        return changed(it, found);
    }

    public boolean copy(int row, int into) throws IndexOutOfBoundsException {
        Row it = rowAt(row);
        Row target = rowAt(into);
        boolean isOther = !target.isLike(it);
        target.take(it);
        return isOther;
    }

    public int length(int row) throws IndexOutOfBoundsException {
        return rowAt(row).size;
    }

    public int number(int row, int place) throws IndexOutOfBoundsException {
        Row it = rowAt(row);
        needPlace(it, place);
        return it.numbers[place];
    }

    // ---- roots

    public int useOdd(int odd) throws IllegalArgumentException {
        if (odd < 1 || odd > GREATEST_ODD || (odd & 1) == 0) {
            throw new IllegalArgumentException("odd is even or out of range");
        }
        int before = this.odd;
        this.odd = odd;
        return before;
    }

    public int root(int length) throws IllegalArgumentException {
        needLength(length);
        return rootTo(length, 1);
    }

    public int power(int length, int exponent) throws IllegalArgumentException {
        needLength(length);
        return rootTo(length, exponent);
    }

    // ---- values

    public int values(int row, boolean isHalved) throws IndexOutOfBoundsException {
        Row it = rowAt(row);
        if (isHalved) {
            halvedValues(it, found);
        } else {
            plainValues(it, found);
        }
        return zerosAsNow(it, found);
    }

    public int back(int row) throws IndexOutOfBoundsException {
        Row it = rowAt(row);
        backRow(it, found);
        return zerosAsNow(it, found);
    }

    public int valueAt(int row, int at) throws IndexOutOfBoundsException, IllegalArgumentException {
        Row it = rowAt(row);
        needNumber(at);
        int worth = 0;
        for (int i = it.size - 1; i >= 0; i--) {
            worth = added(multiplied(worth, at), it.numbers[i]);
        }
        return worth;
    }

    public int support(int row) throws IndexOutOfBoundsException {
        plainValues(rowAt(row), found);
        int places = 0;
        for (int j = 0; j < found.size; j++) {
            if (found.numbers[j] != 0) {
                places |= 1 << j;
            }
        }
        return places;
    }

    // ---- products

    public int times(int row, int other, boolean isByValues) throws IndexOutOfBoundsException, IllegalStateException {
        Row it = rowAt(row);
        Row second = rowAt(other);
        needAlike(it, second);
        if (isByValues) {
            productByValues(it, second, found);
        } else {
            found.becomeRingProduct(it, second);
        }
        return zerosAsNow(it, found);
    }

    public int plainTimes(int row, int other) throws IndexOutOfBoundsException, IllegalStateException {
        Row it = rowAt(row);
        Row second = rowAt(other);
        needAlike(it, second);
        needRoom(it);
        found.becomePlainProduct(it, second);
        return zerosAsNow(it, found);
    }

    public int invert(int row) throws IndexOutOfBoundsException, IllegalStateException {
        Row it = rowAt(row);
        plainValues(it, left);
        if (left.countZeros() > 0) {
            throw new IllegalStateException("one of the values is 0");
        }
        inverseByValues(left, found);
        it.take(found);
        return it.numbers[0];
    }

    public long product(int one, int other) {
        left.becomeDigits(one);
        right.becomeDigits(other);
        found.becomeRingProduct(left, right);
        return found.toldByDigits();
    }

    public int digits(int row, int number) throws IndexOutOfBoundsException {
        Row it = rowAt(row);
        it.becomeDigits(number);
        return it.size - it.countZeros();
    }

    public long told(int row) throws IndexOutOfBoundsException {
        return rowAt(row).toldByDigits();
    }

    // ---- rows that are changed

    public int shift(int row, int by) throws IndexOutOfBoundsException {
        Row it = rowAt(row);
        found.becomeShifted(it, by);
        it.take(found);
        return it.numbers[0];
    }

    public int weigh(int row, int by) throws IndexOutOfBoundsException {
        Row it = rowAt(row);
        weighedRow(it, by, found);
        it.take(found);
        return it.numbers[1];
    }

    public boolean turnRound(int row) throws IndexOutOfBoundsException {
        Row it = rowAt(row);
        found.becomeTurned(it);
        return changed(it, found) > 0;
    }

    public int combine(int row, int other, char how)
            throws IndexOutOfBoundsException, IllegalArgumentException, IllegalStateException {
        Row it = rowAt(row);
        Row second = rowAt(other);
        if (how != '+' && how != '-' && how != '*') {
            throw new IllegalArgumentException("how is none of the signs");
        }
        needAlike(it, second);
        if (how == '+') {
            found.becomeSums(it, second);
        } else if (how == '-') {
            found.becomeDifferences(it, second);
        } else {
            found.becomeProducts(it, second);
        }
        return zerosAsNow(it, found);
    }

    public int multiply(int row, int factor) throws IndexOutOfBoundsException, IllegalArgumentException {
        Row it = rowAt(row);
        needNumber(factor);
        found.becomeScaled(it, factor);
        return zerosAsNow(it, found);
    }

    public int repeat(int row, int after) throws IndexOutOfBoundsException, IllegalArgumentException {
        Row it = rowAt(row);
        needAfter(it, after);
        found.becomeRepeated(it, after);
        return changed(it, found);
    }

    public int own(int row) throws IndexOutOfBoundsException {
        Row it = rowAt(row);
        ownRow(it, found);
        return zerosAsNow(it, found);
    }

    // ---- what is asked of rows

    public int period(int row) throws IndexOutOfBoundsException {
        Row it = rowAt(row);
        for (int after = 1; after < it.size; after *= 2) {
            if (it.comesAgain(after)) {
                return after;
            }
        }
        return it.size;
    }

    public int factor(int row) throws IndexOutOfBoundsException {
        Row it = rowAt(row);
        plainValues(it, wanted);
        int only = onlyFactor(it, wanted);
        found.becomeScaled(it, only);
        return found.isLike(wanted) ? only : NONE;
    }

    public int sum(int row, int other, boolean isBack) throws IndexOutOfBoundsException, IllegalStateException {
        Row it = rowAt(row);
        Row second = rowAt(other);
        needAlike(it, second);
        return it.sumOfProducts(second, isBack);
    }

    public double mean(int row) throws IndexOutOfBoundsException {
        Row it = rowAt(row);
        int plainSum = 0;
        for (int i = 0; i < it.size; i++) {
            plainSum += it.numbers[i];
        }
        return (double) plainSum / (double) it.size;
    }

    public float zeros(int row) throws IndexOutOfBoundsException {
        Row it = rowAt(row);
        return (float) it.countZeros() / (float) it.size;
    }

    // ---- the theorem

    public boolean isBack(int row) throws IndexOutOfBoundsException {
        return holdsOneToThree(rowAt(row));
    }

    public boolean isProduct(int row, int other) throws IndexOutOfBoundsException, IllegalStateException {
        Row it = rowAt(row);
        Row second = rowAt(other);
        needAlike(it, second);
        return holdsProduct(it, second);
    }

    public boolean isPlain(int row, int other) throws IndexOutOfBoundsException, IllegalStateException {
        Row it = rowAt(row);
        Row second = rowAt(other);
        needAlike(it, second);
        needRoom(it);
        return holdsPlainProduct(it, second);
    }

    public boolean isShifted(int row, int by) throws IndexOutOfBoundsException {
        Row it = rowAt(row);
        return holdsShifted(it, by) && holdsWeighed(it, by);
    }

    public boolean isSum(int row, int other, int factor)
            throws IndexOutOfBoundsException, IllegalArgumentException, IllegalStateException {
        Row it = rowAt(row);
        Row second = rowAt(other);
        needNumber(factor);
        needAlike(it, second);
        return holdsSumOfProducts(it, second) && holdsSums(it, second) && holdsScaled(it, factor);
    }

    public boolean isAgain(int row, int after) throws IndexOutOfBoundsException, IllegalArgumentException {
        Row it = rowAt(row);
        needAfter(it, after);
        wanted.becomeRepeated(it, after);
        return holdsAgain(it) && holdsAgain(wanted);
    }

    public boolean isOwn(int row) throws IndexOutOfBoundsException {
        return holdsOwn(rowAt(row));
    }

    public boolean isInverse(int row) throws IndexOutOfBoundsException {
        return holdsInverse(rowAt(row));
    }

    // ---- the whole

    public boolean isSound() {
        for (int row = 0; row < ROW_COUNT; row++) {
            if (!rows[row].isInRange()) {
                return false;
            }
        }
        return holdsOneToThree(rows[0]);
    }

    public long checksum() {
        long h = 31 * 7L + odd;
        for (int row = 0; row < ROW_COUNT; row++) {
            Row it = rows[row];
            h = 31 * h + it.size;
            for (int i = 0; i < it.size; i++) {
                h = 31 * h + it.numbers[i];
            }
        }
        return h;
    }

    // ---- what calls must be given

    private Row rowAt(int row) {
        if (row < 0 || row >= ROW_COUNT) {
            throw new IndexOutOfBoundsException("there is no such row");
        }
        return rows[row];
    }

    private static void needPlace(Row it, int place) {
        if (place < 0 || place >= it.size) {
            throw new IndexOutOfBoundsException("there is no such place");
        }
    }

    private static void needNumber(int number) {
        if (!isNumber(number)) {
            throw new IllegalArgumentException("the number is out of range");
        }
    }

    private static void needLength(int length) {
        if (length < SHORTEST || !isPowerOfTwo(length)) {
            throw new IllegalArgumentException("length is none of 2, 4, 8 and 16");
        }
    }

    private static void needAfter(Row it, int after) {
        if (!isPowerOfTwo(after) || after > it.size) {
            throw new IllegalArgumentException("after is none of 1, 2, 4, 8 and 16, or greater than the length");
        }
    }

    private static void needAlike(Row it, Row other) {
        if (it.size != other.size) {
            throw new IllegalStateException("the lengths are unlike");
        }
    }

    private static void needRoom(Row it) {
        if (it.size >= LONGEST) {
            throw new IllegalStateException("the length is 16");
        }
    }

    private static boolean isPowerOfTwo(int n) {
        return n == 1 || n == 2 || n == 4 || n == 8 || n == LONGEST;
    }

    private static boolean isNumber(int number) {
        return number >= 0 && number < PRIME;
    }

    // ---- numbers

    // The theorem is one of Long.remainderUnsigned(): so that is what reckons, though % would leave the same.

    private static int added(int a, int b) {
        return (int) Long.remainderUnsigned((long) a + b, PRIME);
    }

    private static int lessened(int a, int b) {
        return (int) Long.remainderUnsigned((long) a + PRIME - b, PRIME);
    }

    private static int multiplied(int a, int b) {
        return (int) Long.remainderUnsigned((long) a * b, PRIME);
    }

    private static int reduced(long sum) {
        return (int) Long.remainderUnsigned(sum, PRIME);
    }

    /** The number that times a is 1: by Fermat a to the power of PRIME - 2, whose 16 bits are all 1. */
    private static int inverseOf(int a) {
        int inverse = 1;
        int square = a;
        for (int bit = 0; bit < 16; bit++) {
            inverse = multiplied(inverse, square);
            square = multiplied(square, square);
        }
        return inverse;
    }

    /**
     * 2 to the power of 16 is 65536, which is 0 less 1: so from 16 on the powers come again with the sign changed, and
     * from 32 on as they were. The mask leaves what dividing by 32 leaves, also below 0 and of an int that went round.
     */
    private static int twoTo(int exponent) {
        int turn = exponent & 31;
        return turn < 16 ? 1 << turn : PRIME - (1 << (turn - 16));
    }

    // ---- roots and values

    /** A row of one number has the root 1, as HALVING of a row of two needs it. */
    private int rootTo(int size, int exponent) {
        return twoTo(odd * stepOf(size) * exponent);
    }

    /** 32 divided by the size. */
    private static int stepOf(int size) {
        switch (size) {
            case 2:
                return 16;
            case 4:
                return 8;
            case 8:
                return 4;
            case LONGEST:
                return 2;
            default:
                return 32;
        }
    }

    private void plainValues(Row from, Row into) {
        sumsWithPowers(from, 1, into);
    }

    private void backRow(Row from, Row into) {
        sumsWithPowers(from, -1, into);
        into.becomeScaled(into, inverseOf(from.size));
    }

    private void sumsWithPowers(Row from, int sign, Row into) {
        into.clear(from.size);
        for (int j = 0; j < from.size; j++) {
            long sum = 0;
            for (int i = 0; i < from.size; i++) {
                sum += (long) from.numbers[i] * rootTo(from.size, sign * i * j);
            }
            into.numbers[j] = reduced(sum);
        }
    }

    /** HALVING from its end: rows of one number are their own VALUES, and each step joins rows two by two. */
    private void halvedValues(Row from, Row into) {
        into.take(from);
        int joined = from.size / 2;
        for (int half = 1; half < from.size; half *= 2) {
            parts.take(into);
            joinParts(half, joined, into);
            joined /= 2;
        }
    }

    /**
     * In parts stand, one behind the other, the VALUES of 2 * joined rows of half numbers each; the row r has the
     * numbers at the places r, r + 2 * joined, and so on. So the even places of the joined row r are the row r, and
     * its odd places the row r + joined.
     */
    private void joinParts(int half, int joined, Row into) {
        for (int r = 0; r < joined; r++) {
            for (int j = 0; j < half; j++) {
                int even = parts.numbers[r * half + j];
                int turned = multiplied(parts.numbers[(r + joined) * half + j], rootTo(2 * half, j));
                into.numbers[2 * r * half + j] = added(even, turned);
                into.numbers[2 * r * half + half + j] = lessened(even, turned);
            }
        }
    }

    private void productByValues(Row a, Row b, Row into) {
        halvedValues(a, left);
        halvedValues(b, right);
        mixed.becomeProducts(left, right);
        backRow(mixed, into);
    }

    private void inverseByValues(Row ofValues, Row into) {
        mixed.clear(ofValues.size);
        for (int j = 0; j < ofValues.size; j++) {
            mixed.numbers[j] = inverseOf(ofValues.numbers[j]);
        }
        backRow(mixed, into);
    }

    private void weighedRow(Row from, int by, Row into) {
        into.clear(from.size);
        for (int i = 0; i < from.size; i++) {
            into.numbers[i] = multiplied(from.numbers[i], rootTo(from.size, by * i));
        }
    }

    private void ownRow(Row from, Row into) {
        mixed.becomeTurned(from);
        mixed.becomeSums(from, mixed);
        plainValues(mixed, into);
        mixed.becomeScaled(mixed, ownScale(from.size));
        into.becomeSums(into, mixed);
    }

    /** A square root of the size. */
    private static int ownScale(int size) {
        switch (size) {
            case 2:
                return 4080;
            case 4:
                return 2;
            case 8:
                return 8160;
            default:
                return 4;
        }
    }

    /** The one factor that can do, told by the first number that is not 0; if all are 0, every one does. */
    private static int onlyFactor(Row it, Row its) {
        for (int i = 0; i < it.size; i++) {
            if (it.numbers[i] != 0) {
                return multiplied(its.numbers[i], inverseOf(it.numbers[i]));
            }
        }
        return 0;
    }

    // ---- what rows become

    private static int zerosAsNow(Row it, Row now) {
        it.take(now);
        return it.countZeros();
    }

    /** Both rows have the same size. */
    private static int changed(Row it, Row now) {
        int others = 0;
        for (int i = 0; i < now.size; i++) {
            if (it.numbers[i] != now.numbers[i]) {
                others++;
            }
        }
        it.take(now);
        return others;
    }

    // ---- the sentences of the theorem

    private boolean holdsOneToThree(Row it) {
        return holdsHalving(it) && holdsBack(it) && holdsTwice(it);
    }

    private boolean holdsHalving(Row it) {
        int half = it.size / 2;
        left.becomeEverySecond(it, 0);
        right.becomeEverySecond(it, 1);
        plainValues(left, mixed);
        plainValues(right, wanted);
        plainValues(it, found);
        for (int j = 0; j < half; j++) {
            int turned = multiplied(wanted.numbers[j], rootTo(it.size, j));
            if (found.numbers[j] != added(mixed.numbers[j], turned)
                    || found.numbers[j + half] != lessened(mixed.numbers[j], turned)) {
                return false;
            }
        }
        return true;
    }

    private boolean holdsBack(Row it) {
        plainValues(it, left);
        backRow(left, found);
        backRow(it, right);
        plainValues(right, wanted);
        return found.isLike(it) && wanted.isLike(it);
    }

    private boolean holdsTwice(Row it) {
        plainValues(it, left);
        plainValues(left, found);
        wanted.becomeTurned(it);
        wanted.becomeScaled(wanted, it.size);
        return found.isLike(wanted);
    }

    private boolean holdsProduct(Row a, Row b) {
        plainValues(a, left);
        plainValues(b, right);
        mixed.becomeProducts(left, right);
        wanted.becomeRingProduct(a, b);
        plainValues(wanted, found);
        if (!found.isLike(mixed)) {
            return false;
        }
        backRow(mixed, found);
        return found.isLike(wanted);
    }

    private boolean holdsPlainProduct(Row a, Row b) {
        left.becomeLengthened(a);
        right.becomeLengthened(b);
        found.becomeRingProduct(left, right);
        wanted.becomePlainProduct(a, b);
        return found.isLike(wanted) && wanted.numbers[wanted.size - 1] == 0;
    }

    private boolean holdsShifted(Row it, int by) {
        left.becomeShifted(it, by);
        plainValues(left, found);
        plainValues(it, right);
        weighedRow(right, by, wanted);
        return found.isLike(wanted);
    }

    private boolean holdsWeighed(Row it, int by) {
        weighedRow(it, by, left);
        plainValues(left, found);
        plainValues(it, right);
        wanted.becomeShifted(right, -by);
        return found.isLike(wanted);
    }

    private boolean holdsSumOfProducts(Row a, Row b) {
        plainValues(a, left);
        plainValues(b, right);
        return multiplied(a.size, a.sumOfProducts(b, true)) == left.sumOfProducts(right, false);
    }

    private boolean holdsSums(Row a, Row b) {
        mixed.becomeSums(a, b);
        plainValues(mixed, found);
        plainValues(a, left);
        plainValues(b, right);
        wanted.becomeSums(left, right);
        return found.isLike(wanted);
    }

    private boolean holdsScaled(Row it, int factor) {
        mixed.becomeScaled(it, factor);
        plainValues(mixed, found);
        plainValues(it, left);
        wanted.becomeScaled(left, factor);
        return found.isLike(wanted);
    }

    private boolean holdsAgain(Row it) {
        plainValues(it, found);
        for (int after = 1; after <= it.size; after *= 2) {
            if (it.comesAgain(after) != found.isZeroOffMultiples(after)) {
                return false;
            }
        }
        return true;
    }

    private boolean holdsOwn(Row it) {
        ownRow(it, left);
        plainValues(left, found);
        wanted.becomeScaled(left, ownScale(it.size));
        return found.isLike(wanted);
    }

    private boolean holdsInverse(Row it) {
        plainValues(it, left);
        if (left.countZeros() > 0) {
            return true;
        }
        inverseByValues(left, right);
        found.becomeRingProduct(it, right);
        wanted.clear(it.size);
        wanted.numbers[0] = 1;
        return found.isLike(wanted);
    }

    /**
     * A row of 1, 2, 4, 8 or 16 numbers (of 1 only among those to reckon in). What a row becomes place by place may be
     * read from that row itself; else the rows that are read are others.
     */
    private static final class Row {
        final int[] numbers = new int[LONGEST];
        int size = SHORTEST;

        void clear(int newSize) {
            size = newSize;
            Arrays.fill(numbers, 0);
        }

        void take(Row other) {
            size = other.size;
            System.arraycopy(other.numbers, 0, numbers, 0, LONGEST);
        }

        boolean isLike(Row other) {
            if (size != other.size) {
                return false;
            }
            for (int i = 0; i < size; i++) {
                if (numbers[i] != other.numbers[i]) {
                    return false;
                }
            }
            return true;
        }

        boolean isInRange() {
            for (int i = 0; i < size; i++) {
                if (!isNumber(numbers[i])) {
                    return false;
                }
            }
            return true;
        }

        int countZeros() {
            int count = 0;
            for (int i = 0; i < size; i++) {
                if (numbers[i] == 0) {
                    count++;
                }
            }
            return count;
        }

        /** The place may lie before or behind the row: the mask goes round, the size being a power of 2. */
        int roundAt(int place) {
            return numbers[place & (size - 1)];
        }

        boolean comesAgain(int after) {
            for (int i = 0; i < size; i++) {
                if (numbers[i] != roundAt(i + after)) {
                    return false;
                }
            }
            return true;
        }

        /** A place j is a multiple of size / after just if j times after is one of the size. */
        boolean isZeroOffMultiples(int after) {
            for (int j = 0; j < size; j++) {
                if (numbers[j] != 0 && ((j * after) & (size - 1)) != 0) {
                    return false;
                }
            }
            return true;
        }

        int sumOfProducts(Row other, boolean isBackwards) {
            long sum = 0;
            for (int i = 0; i < size; i++) {
                sum += (long) numbers[i] * other.roundAt(isBackwards ? -i : i);
            }
            return reduced(sum);
        }

        long toldByDigits() {
            long sum = 0;
            for (int k = 0; k < size; k++) {
                sum += (long) numbers[k] << (4 * k);
            }
            return sum;
        }

        void becomeDigits(int number) {
            clear(LONGEST);
            for (int k = 0; k < DIGITS_IN_NUMBER; k++) {
                numbers[k] = (number >>> (4 * k)) & 15;
            }
        }

        void becomeRingProduct(Row a, Row b) {
            clear(a.size);
            for (int k = 0; k < size; k++) {
                long sum = 0;
                for (int i = 0; i < a.size; i++) {
                    sum += (long) a.numbers[i] * b.roundAt(k - i);
                }
                numbers[k] = reduced(sum);
            }
        }

        /** The rows that are read have at most 8 numbers. */
        void becomePlainProduct(Row a, Row b) {
            clear(2 * a.size);
            for (int i = 0; i < a.size; i++) {
                for (int j = 0; j < b.size; j++) {
                    numbers[i + j] = added(numbers[i + j], multiplied(a.numbers[i], b.numbers[j]));
                }
            }
        }

        /** The row that is read has at most 8 numbers. */
        void becomeLengthened(Row from) {
            clear(2 * from.size);
            System.arraycopy(from.numbers, 0, numbers, 0, from.size);
        }

        void becomeEverySecond(Row from, int first) {
            clear(from.size / 2);
            for (int i = 0; i < size; i++) {
                numbers[i] = from.numbers[2 * i + first];
            }
        }

        void becomeShifted(Row from, int by) {
            clear(from.size);
            for (int i = 0; i < size; i++) {
                numbers[i] = from.roundAt(i - by);
            }
        }

        void becomeTurned(Row from) {
            clear(from.size);
            for (int i = 0; i < size; i++) {
                numbers[i] = from.roundAt(-i);
            }
        }

        void becomeRepeated(Row from, int after) {
            clear(from.size);
            for (int i = 0; i < size; i++) {
                numbers[i] = from.numbers[i & (after - 1)];
            }
        }

        void becomeScaled(Row from, int scale) {
            size = from.size;
            for (int i = 0; i < size; i++) {
                numbers[i] = multiplied(from.numbers[i], scale);
            }
        }

        void becomeSums(Row a, Row b) {
            size = a.size;
            for (int i = 0; i < size; i++) {
                numbers[i] = added(a.numbers[i], b.numbers[i]);
            }
        }

        void becomeDifferences(Row a, Row b) {
            size = a.size;
            for (int i = 0; i < size; i++) {
                numbers[i] = lessened(a.numbers[i], b.numbers[i]);
            }
        }

        void becomeProducts(Row a, Row b) {
            size = a.size;
            for (int i = 0; i < size; i++) {
                numbers[i] = multiplied(a.numbers[i], b.numbers[i]);
            }
        }
    }
}
