import java.math.BigInteger;
import java.util.Arrays;

/** The document once more, as slowly and as near to its words as can be: what Rootrows is measured by. */
public final class Model {
    private static final BigInteger P = BigInteger.valueOf(65537);

    private BigInteger[][] rows = new BigInteger[4][];
    private int odd = 1;

    public Model() {
        for (int i = 0; i < 4; i++) {
            rows[i] = zeroRow(2);
        }
    }

    private static BigInteger[] zeroRow(int n) {
        BigInteger[] row = new BigInteger[n];
        Arrays.fill(row, BigInteger.ZERO);
        return row;
    }

    private static BigInteger big(long n) {
        return BigInteger.valueOf(n);
    }

    private void rowIs(int row) {
        if (row < 0 || row > 3) {
            throw new IndexOutOfBoundsException();
        }
    }

    private void rowsAre(int row, int other) {
        rowIs(row);
        rowIs(other);
    }

    private void alike(int row, int other) {
        if (rows[row].length != rows[other].length) {
            throw new IllegalStateException();
        }
    }

    private void notSixteen(int row) {
        if (rows[row].length == 16) {
            throw new IllegalStateException();
        }
    }

    private static void argument(boolean isRight) {
        if (!isRight) {
            throw new IllegalArgumentException();
        }
    }

    private static boolean isNumber(int n) {
        return n >= 0 && n <= 65536;
    }

    private static boolean isLength(int n) {
        return n == 2 || n == 4 || n == 8 || n == 16;
    }

    private void afterIs(int row, int after) {
        argument((after == 1 || isLength(after)) && after <= rows[row].length);
    }

    private static int zerosOf(BigInteger[] a) {
        int count = 0;
        for (BigInteger number : a) {
            if (number.signum() == 0) {
                count++;
            }
        }
        return count;
    }

    private int become(int row, BigInteger[] a) {
        rows[row] = a;
        return zerosOf(a);
    }

    private int becomeCountingOthers(int row, BigInteger[] a) {
        int count = 0;
        for (int i = 0; i < a.length; i++) {
            if (!a[i].equals(rows[row][i])) {
                count++;
            }
        }
        rows[row] = a;
        return count;
    }

    private BigInteger w(int n) {
        return BigInteger.TWO.pow(odd * 32 / n).mod(P);
    }

    private BigInteger w(int n, long exponent) {
        return w(n).pow((int) Math.floorMod(exponent, (long) n)).mod(P);
    }

    private BigInteger[] valuesOf(BigInteger[] a) {
        int n = a.length;
        BigInteger[] to = zeroRow(n);
        for (int j = 0; j < n; j++) {
            for (int i = 0; i < n; i++) {
                to[j] = to[j].add(a[i].multiply(w(n, (long) i * j))).mod(P);
            }
        }
        return to;
    }

    private BigInteger[] backOf(BigInteger[] b) {
        int n = b.length;
        BigInteger[] to = zeroRow(n);
        for (int i = 0; i < n; i++) {
            for (int j = 0; j < n; j++) {
                to[i] = to[i].add(b[j].multiply(w(n, -(long) i * j)));
            }
            to[i] = to[i].multiply(big(n).modInverse(P)).mod(P);
        }
        return to;
    }

    private static BigInteger[] ring(BigInteger[] a, BigInteger[] b) {
        int n = a.length;
        BigInteger[] to = zeroRow(n);
        for (int i = 0; i < n; i++) {
            for (int j = 0; j < n; j++) {
                int k = i + j < n ? i + j : i + j - n;
                to[k] = to[k].add(a[i].multiply(b[j])).mod(P);
            }
        }
        return to;
    }

    private static BigInteger[] turned(BigInteger[] a) {
        BigInteger[] to = a.clone();
        for (int i = 1; i < a.length; i++) {
            to[a.length - i] = a[i];
        }
        return to;
    }

    private static BigInteger[] digitsOf(int number) {
        BigInteger[] to = zeroRow(16);
        for (int k = 0; k < 16; k++) {
            to[k] = big(Integer.toUnsignedLong(number)).divide(big(16).pow(k)).mod(big(16));
        }
        return to;
    }

    private static long toldOf(BigInteger[] a) {
        BigInteger sum = BigInteger.ZERO;
        for (int k = 0; k < a.length; k++) {
            sum = sum.add(a[k].multiply(big(16).pow(k)));
        }
        return sum.longValue();
    }

    public int make(int row, int length) {
        rowIs(row);
        argument(isLength(length));
        int before = rows[row].length;
        rows[row] = zeroRow(length);
        return before;
    }

    private void placeIs(int row, int place) {
        if (place < 0 || place >= rows[row].length) {
            throw new IndexOutOfBoundsException();
        }
    }

    public int set(int row, int place, int number) {
        rowIs(row);
        placeIs(row, place);
        argument(isNumber(number));
        int before = rows[row][place].intValue();
        rows[row] = rows[row].clone();
        rows[row][place] = big(number);
        return before;
    }

    public int fill(int row, int from, int number) {
        rowIs(row);
        if (from != rows[row].length) {
            placeIs(row, from);
        }
        argument(isNumber(number));
        BigInteger[] to = rows[row].clone();
        Arrays.fill(to, from, to.length, big(number));
        return becomeCountingOthers(row, to);
    }

    public boolean copy(int row, int into) {
        rowsAre(row, into);
        boolean isOther = !Arrays.equals(rows[row], rows[into]);
        rows[into] = rows[row].clone();
        return isOther;
    }

    public int length(int row) {
        rowIs(row);
        return rows[row].length;
    }

    public int number(int row, int place) {
        rowIs(row);
        placeIs(row, place);
        return rows[row][place].intValue();
    }

    public int useOdd(int odd) {
        argument(odd >= 1 && odd <= 31 && odd % 2 == 1);
        int before = this.odd;
        this.odd = odd;
        return before;
    }

    public int root(int length) {
        argument(isLength(length));
        return w(length).intValue();
    }

    public int power(int length, int exponent) {
        argument(isLength(length));
        return w(length, exponent).intValue();
    }

    public int values(int row, boolean isHalved) {
        rowIs(row);
        return become(row, valuesOf(rows[row]));
    }

    public int back(int row) {
        rowIs(row);
        return become(row, backOf(rows[row]));
    }

    public int valueAt(int row, int at) {
        rowIs(row);
        argument(isNumber(at));
        BigInteger sum = BigInteger.ZERO;
        for (int i = 0; i < rows[row].length; i++) {
            sum = sum.add(rows[row][i].multiply(big(at).pow(i)));
        }
        return sum.mod(P).intValue();
    }

    public int support(int row) {
        rowIs(row);
        BigInteger[] values = valuesOf(rows[row]);
        int sum = 0;
        for (int j = 0; j < values.length; j++) {
            sum += values[j].signum() == 0 ? 0 : (int) Math.pow(2, j);
        }
        return sum;
    }

    public int times(int row, int other, boolean isByValues) {
        rowsAre(row, other);
        alike(row, other);
        return become(row, ring(rows[row], rows[other]));
    }

    public int plainTimes(int row, int other) {
        rowsAre(row, other);
        alike(row, other);
        notSixteen(row);
        int n = rows[row].length;
        BigInteger[] to = zeroRow(2 * n);
        for (int i = 0; i < n; i++) {
            for (int j = 0; j < n; j++) {
                to[i + j] = to[i + j].add(rows[row][i].multiply(rows[other][j])).mod(P);
            }
        }
        return become(row, to);
    }

    public int invert(int row) {
        rowIs(row);
        BigInteger[] values = valuesOf(rows[row]);
        if (zerosOf(values) > 0) {
            throw new IllegalStateException();
        }
        for (int j = 0; j < values.length; j++) {
            values[j] = values[j].modInverse(P);
        }
        rows[row] = backOf(values);
        return rows[row][0].intValue();
    }

    public long product(int one, int other) {
        return Integer.toUnsignedLong(one) * Integer.toUnsignedLong(other);
    }

    public int digits(int row, int number) {
        rowIs(row);
        return 16 - become(row, digitsOf(number));
    }

    public long told(int row) {
        rowIs(row);
        return toldOf(rows[row]);
    }

    public int shift(int row, int by) {
        rowIs(row);
        int n = rows[row].length;
        BigInteger[] to = zeroRow(n);
        for (int i = 0; i < n; i++) {
            to[(int) Math.floorMod((long) i + by, (long) n)] = rows[row][i];
        }
        rows[row] = to;
        return to[0].intValue();
    }

    public int weigh(int row, int by) {
        rowIs(row);
        int n = rows[row].length;
        BigInteger[] to = zeroRow(n);
        for (int i = 0; i < n; i++) {
            to[i] = rows[row][i].multiply(w(n, (long) by * i)).mod(P);
        }
        rows[row] = to;
        return to[1].intValue();
    }

    public boolean turnRound(int row) {
        rowIs(row);
        return becomeCountingOthers(row, turned(rows[row])) > 0;
    }

    public int combine(int row, int other, char how) {
        rowsAre(row, other);
        argument("+-*".indexOf(how) >= 0);
        alike(row, other);
        BigInteger[] to = rows[row].clone();
        for (int i = 0; i < to.length; i++) {
            BigInteger a = rows[row][i];
            BigInteger b = rows[other][i];
            to[i] = (how == '+' ? a.add(b) : how == '-' ? a.subtract(b) : a.multiply(b)).mod(P);
        }
        return become(row, to);
    }

    public int multiply(int row, int factor) {
        rowIs(row);
        argument(isNumber(factor));
        BigInteger[] to = rows[row].clone();
        for (int i = 0; i < to.length; i++) {
            to[i] = to[i].multiply(big(factor)).mod(P);
        }
        return become(row, to);
    }

    public int repeat(int row, int after) {
        rowIs(row);
        afterIs(row, after);
        BigInteger[] to = rows[row].clone();
        for (int i = 0; i < to.length; i++) {
            to[i] = rows[row][i % after];
        }
        return becomeCountingOthers(row, to);
    }

    public int own(int row) {
        rowIs(row);
        int n = rows[row].length;
        int s = n == 2 ? 4080 : n == 4 ? 2 : n == 8 ? 8160 : 4;
        BigInteger[] e = turned(rows[row]);
        for (int i = 0; i < n; i++) {
            e[i] = e[i].add(rows[row][i]).mod(P);
        }
        BigInteger[] to = valuesOf(e);
        for (int i = 0; i < n; i++) {
            to[i] = to[i].add(e[i].multiply(big(s))).mod(P);
        }
        return become(row, to);
    }

    public int period(int row) {
        rowIs(row);
        int n = rows[row].length;
        for (int after = 1; after < n; after *= 2) {
            BigInteger[] on = zeroRow(n);
            for (int i = 0; i < n; i++) {
                on[i] = rows[row][(i + after) % n];
            }
            if (Arrays.equals(on, rows[row])) {
                return after;
            }
        }
        return n;
    }

    /** Of two factors that both do, all numbers but 0 are left out: so the least one is 0, or there is one alone. */
    public int factor(int row) {
        rowIs(row);
        BigInteger[] a = rows[row];
        BigInteger[] values = valuesOf(a);
        if (zerosOf(a) == a.length) {
            return 0;
        }
        int first = 0;
        while (a[first].signum() == 0) {
            first++;
        }
        BigInteger factor = values[first].multiply(a[first].modInverse(P)).mod(P);
        for (int i = 0; i < a.length; i++) {
            if (!a[i].multiply(factor).mod(P).equals(values[i])) {
                return -1;
            }
        }
        return factor.intValue();
    }

    public int sum(int row, int other, boolean isBack) {
        rowsAre(row, other);
        alike(row, other);
        BigInteger[] b = isBack ? turned(rows[other]) : rows[other];
        BigInteger sum = BigInteger.ZERO;
        for (int i = 0; i < b.length; i++) {
            sum = sum.add(rows[row][i].multiply(b[i]));
        }
        return sum.mod(P).intValue();
    }

    public double mean(int row) {
        rowIs(row);
        BigInteger sum = BigInteger.ZERO;
        for (BigInteger number : rows[row]) {
            sum = sum.add(number);
        }
        return sum.doubleValue() / rows[row].length;
    }

    public float zeros(int row) {
        rowIs(row);
        return (float) zerosOf(rows[row]) / rows[row].length;
    }

    public boolean isBack(int row) {
        rowIs(row);
        return true;
    }

    public boolean isProduct(int row, int other) {
        rowsAre(row, other);
        alike(row, other);
        return true;
    }

    public boolean isPlain(int row, int other) {
        rowsAre(row, other);
        alike(row, other);
        notSixteen(row);
        return true;
    }

    public boolean isShifted(int row, int by) {
        rowIs(row);
        return true;
    }

    public boolean isSum(int row, int other, int factor) {
        rowsAre(row, other);
        argument(isNumber(factor));
        alike(row, other);
        return true;
    }

    public boolean isAgain(int row, int after) {
        rowIs(row);
        afterIs(row, after);
        return true;
    }

    public boolean isOwn(int row) {
        rowIs(row);
        return true;
    }

    public boolean isInverse(int row) {
        rowIs(row);
        return true;
    }

    public boolean isSound() {
        return true;
    }

    public long checksum() {
        long h = 7;
        h = 31 * h + odd;
        for (BigInteger[] row : rows) {
            h = 31 * h + row.length;
            for (BigInteger number : row) {
                h = 31 * h + number.longValue();
            }
        }
        return h;
    }
}
