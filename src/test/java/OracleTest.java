import java.math.BigInteger;
import java.util.Arrays;
import java.util.Random;

/**
 * Many sets of equations, each answer against what the document's words ask, by ways that the class
 * does not go: trying all rows of unknowns, and determinants in numbers without a bound.
 */
final class OracleTest {
    private static final long NOTHING = -1000000000000000L;
    private static final Dues DUES = new Dues();

    private final int n;
    private final int k;
    private final int[][] factors;
    private final int[] sums;
    private final WholeSolver x = new WholeSolver();

    private OracleTest(int n, int[][] factors, int[] sums) {
        this.n = n;
        this.k = sums.length;
        this.factors = factors;
        this.sums = sums;
        DUES.at(n + " unknowns, " + Arrays.deepToString(factors) + " = " + Arrays.toString(sums));
        DUES.due("unknowns", x.unknowns(n), 1);
        for (int e = 0; e < k; e++) {
            int[] f = factors[e];
            DUES.due("equation", x.equation(f[0], f[1], f[2], f[3], sums[e]), e);
        }
    }

    public static void main(String[] args) {
        Random random = new Random(20261115);
        for (int run = 0; run < 30000; run++) {
            OracleTest test = next(random);
            test.compareLattices();
            test.compareSolution();
            test.compareReached(random);
            if (run % 10 == 0) {
                test.compareBoxes(random);
                test.compareModulo(1 + random.nextInt(12));
            }
            if (run % 500 == 0) {
                test.compareModulo(13 + random.nextInt(28));
                test.compareModulo(40);
            }
        }
        DUES.end();
    }

    private static OracleTest next(Random random) {
        int n = 1 + random.nextInt(4);
        int k = random.nextInt(4);
        int style = random.nextInt(5);
        int[][] factors = new int[k][4];
        int[] sums = new int[k];
        int[] hidden = random.ints(4, -12, 13).toArray();
        for (int e = 0; e < k; e++) {
            for (int j = 0; j < 4; j++) {
                factors[e][j] = factor(random, style);
            }
            if (e > 0 && random.nextInt(5) == 0) {
                repeat(random, factors, e);
            }
            sums[e] = random.nextInt(2001) - 1000;
            int fitting = 0;
            for (int j = 0; j < n; j++) {
                fitting += factors[e][j] * hidden[j];
            }
            // Most sums of chance can't be reached; these can.
            if (random.nextInt(5) != 0) {
                sums[e] = fitting;
            }
        }
        return new OracleTest(n, factors, sums);
    }

    private static int factor(Random random, int style) {
        switch (style) {
            case 0:
                return random.nextInt(19) - 9;
            case 1:
                return random.nextInt(3) - 1;
            case 2:
                return 3 * (random.nextInt(7) - 3);
            case 3:
                return random.nextInt(3) == 0 ? random.nextInt(19) - 9 : 0;
            default:
                return (random.nextBoolean() ? 1 : -1) * (9 - random.nextInt(3));
        }
    }

    /** Equations that depend on one before, where that stays inside -9 .. 9. */
    private static void repeat(Random random, int[][] factors, int e) {
        int times = random.nextInt(5) - 2;
        int[] before = factors[random.nextInt(e)];
        for (int f : before) {
            if (Math.abs(times * f) > 9) {
                times = 1;
            }
        }
        for (int j = 0; j < 4; j++) {
            factors[e][j] = times * before[j];
        }
    }

    private void compareLattices() {
        BigInteger[][] matrix = matrix(k, false);
        int rank = rank(matrix);
        DUES.due("count(0)", x.count(0), rank);
        DUES.due("count(1)", x.count(1), n - rank);
        BigInteger[][] basis = new BigInteger[n - rank][n];
        for (int i = 0; i < n - rank; i++) {
            for (int j = 0; j < n; j++) {
                basis[i][j] = BigInteger.valueOf(x.basis(i, j));
            }
            for (int e = 0; e < k; e++) {
                DUES.holds("basis row " + i + " is free", dot(matrix[e], basis[i]).signum() == 0);
            }
        }
        DUES.holds("basis is a form", isForm(basis));
        // Free rows of the right number, and no divisor left between them and all that are free.
        DUES.holds("basis is whole", minors(basis, n - rank).equals(BigInteger.ONE));
        compareReach(matrix, rank);
        compareInvariants(matrix);
        DUES.due("check()", x.check(), 1);
    }

    private void compareReach(BigInteger[][] matrix, int rank) {
        BigInteger[][] reach = new BigInteger[rank][k];
        for (int i = 0; i < rank; i++) {
            for (int e = 0; e < k; e++) {
                reach[i][e] = BigInteger.valueOf(x.reach(i, e));
            }
        }
        DUES.holds("reach is a form", isForm(reach));
        for (int j = 0; j < n; j++) {
            BigInteger[] column = new BigInteger[k];
            for (int e = 0; e < k; e++) {
                column[e] = matrix[e][j];
            }
            DUES.holds("factors of unknown " + j + " come of the reach", comesOf(reach, column));
        }
        // A lattice with all the factors in it, of their rank and their measure, is theirs.
        DUES.holds("reach is no more than is reached", minors(reach, rank).equals(minors(matrix, rank)));
    }

    private void compareInvariants(BigInteger[][] matrix) {
        for (int size = 0; size <= 4; size++) {
            long want = NOTHING;
            if (size >= 1 && size <= Math.min(n, k)) {
                BigInteger now = minors(matrix, size);
                want = now.signum() == 0 ? 0 : now.divide(minors(matrix, size - 1)).longValueExact();
            }
            DUES.due("invariant(" + size + ")", x.invariant(size), want);
        }
    }

    private void compareSolution() {
        int failing = -1;
        for (int e = k; e >= 1; e--) {
            if (!solvable(e)) {
                failing = e - 1;
            }
        }
        DUES.due("fails()", x.fails(), failing);
        DUES.due("solve()", x.solve(), failing < 0 ? x.count(1) : -1);
        DUES.due("spread()", x.spread(), failing >= 0 ? -1 : x.count(1) == 0 ? 0 : 1);
        for (int j = n; j < 5; j++) {
            DUES.due("solution(" + j + ")", x.solution(j), NOTHING);
        }
        for (int j = 0; j < n && failing >= 0; j++) {
            DUES.due("solution(" + j + ")", x.solution(j), NOTHING);
        }
        if (failing < 0) {
            theSolutionHolds();
        }
    }

    private void theSolutionHolds() {
        for (int e = 0; e < k; e++) {
            BigInteger total = BigInteger.ZERO;
            for (int j = 0; j < n; j++) {
                total = total.add(BigInteger.valueOf(factors[e][j]).multiply(BigInteger.valueOf(x.solution(j))));
            }
            DUES.holds("equation " + e, total.equals(BigInteger.valueOf(sums[e])));
        }
        for (int i = 0; i < x.count(1); i++) {
            int j = 0;
            while (x.basis(i, j) == 0) {
                j++;
            }
            DUES.holds("solution at the lead of row " + i, x.solution(j) >= 0 && x.solution(j) < x.basis(i, j));
        }
    }

    /** The first equations have a solution when their sums add nothing to rank and determinants. */
    private boolean solvable(int equations) {
        BigInteger[][] plain = matrix(equations, false);
        BigInteger[][] withSums = matrix(equations, true);
        int rank = rank(plain);
        return rank(withSums) == rank && minors(withSums, rank).equals(minors(plain, rank));
    }

    private void compareReached(Random random) {
        int[] kept = sums.clone();
        int[] asked = new int[3];
        for (int turn = 0; turn < 3; turn++) {
            for (int e = 0; e < 3; e++) {
                int some = random.nextInt(21) - 10;
                asked[e] = turn == 0 && e < k ? kept[e] : random.nextInt(20) == 0 ? random.nextInt() : some;
            }
            System.arraycopy(asked, 0, sums, 0, k);
            DUES.due("reached " + Arrays.toString(asked), x.reached(asked[0], asked[1], asked[2]), solvable(k) ? 1 : 0);
        }
        System.arraycopy(kept, 0, sums, 0, k);
    }

    private void compareBoxes(Random random) {
        compareBox(-12, 12);
        int low = random.nextInt(25) - 12;
        compareBox(low, low + random.nextInt(13 - low));
    }

    private void compareBox(int low, int high) {
        DUES.due("box(" + low + ", " + high + ")", x.box(low, high), tried(low, high, 0));
    }

    private void compareModulo(int m) {
        DUES.due("modulo(" + m + ")", x.modulo(m), tried(0, m - 1, m));
    }

    /** How many rows from low to high solve all equations, but for what m divides if it is not 0. */
    private int tried(int low, int high, int m) {
        int[] row = new int[n];
        Arrays.fill(row, low);
        int found = 0;
        while (true) {
            found += solves(row, m) ? 1 : 0;
            int j = 0;
            while (j < n && row[j] == high) {
                row[j++] = low;
            }
            if (j == n) {
                return found;
            }
            row[j]++;
        }
    }

    private boolean solves(int[] row, int m) {
        for (int e = 0; e < k; e++) {
            int over = -sums[e];
            for (int j = 0; j < n; j++) {
                over += factors[e][j] * row[j];
            }
            if (m == 0 ? over != 0 : over % m != 0) {
                return false;
            }
        }
        return true;
    }

    private BigInteger[][] matrix(int equations, boolean withSums) {
        BigInteger[][] matrix = new BigInteger[equations][withSums ? n + 1 : n];
        for (int e = 0; e < equations; e++) {
            for (int j = 0; j < n; j++) {
                matrix[e][j] = BigInteger.valueOf(factors[e][j]);
            }
            if (withSums) {
                matrix[e][n] = BigInteger.valueOf(sums[e]);
            }
        }
        return matrix;
    }

    private static BigInteger dot(BigInteger[] a, BigInteger[] b) {
        BigInteger total = BigInteger.ZERO;
        for (int j = 0; j < a.length; j++) {
            total = total.add(a[j].multiply(b[j]));
        }
        return total;
    }

    private static int rank(BigInteger[][] matrix) {
        int rank = 0;
        while (rank < matrix.length && minors(matrix, rank + 1).signum() != 0) {
            rank++;
        }
        return rank;
    }

    /** The greatest common divisor of all determinants of so many rows and columns. */
    private static BigInteger minors(BigInteger[][] matrix, int size) {
        BigInteger divisor = size == 0 ? BigInteger.ONE : BigInteger.ZERO;
        int width = matrix.length == 0 ? 0 : matrix[0].length;
        for (int rows = 1; rows < 1 << matrix.length; rows++) {
            for (int columns = 1; columns < 1 << width; columns++) {
                if (Integer.bitCount(rows) == size && Integer.bitCount(columns) == size) {
                    divisor = divisor.gcd(determinant(chosen(matrix, rows, columns, size)));
                }
            }
        }
        return divisor;
    }

    private static BigInteger[][] chosen(BigInteger[][] matrix, int rows, int columns, int size) {
        BigInteger[][] part = new BigInteger[size][size];
        int i = 0;
        for (int row = 0; row < matrix.length; row++) {
            if ((rows >> row & 1) == 1) {
                int j = 0;
                for (int column = 0; column < matrix[0].length; column++) {
                    if ((columns >> column & 1) == 1) {
                        part[i][j++] = matrix[row][column];
                    }
                }
                i++;
            }
        }
        return part;
    }

    /** By elimination without fractions. */
    private static BigInteger determinant(BigInteger[][] m) {
        int size = m.length;
        BigInteger before = BigInteger.ONE;
        int sign = 1;
        for (int p = 0; p < size; p++) {
            int row = p;
            while (row < size && m[row][p].signum() == 0) {
                row++;
            }
            if (row == size) {
                return BigInteger.ZERO;
            }
            if (row != p) {
                BigInteger[] swapped = m[row];
                m[row] = m[p];
                m[p] = swapped;
                sign = -sign;
            }
            for (int i = p + 1; i < size; i++) {
                for (int j = p + 1; j < size; j++) {
                    m[i][j] = m[i][j].multiply(m[p][p]).subtract(m[i][p].multiply(m[p][j])).divide(before);
                }
            }
            before = m[p][p];
        }
        return sign > 0 ? before : before.negate();
    }

    private static boolean isForm(BigInteger[][] rows) {
        int lead = -1;
        for (int i = 0; i < rows.length; i++) {
            int j = leadOf(rows[i]);
            if (j <= lead || j == rows[i].length || rows[i][j].signum() <= 0) {
                return false;
            }
            for (int above = 0; above < i; above++) {
                if (rows[above][j].signum() < 0 || rows[above][j].compareTo(rows[i][j]) >= 0) {
                    return false;
                }
            }
            lead = j;
        }
        return true;
    }

    private static int leadOf(BigInteger[] row) {
        int j = 0;
        while (j < row.length && row[j].signum() == 0) {
            j++;
        }
        return j;
    }

    private static boolean comesOf(BigInteger[][] form, BigInteger[] numbers) {
        BigInteger[] left = numbers.clone();
        for (BigInteger[] row : form) {
            int lead = leadOf(row);
            if (lead == row.length) {
                return false;
            }
            BigInteger times = left[lead].divide(row[lead]);
            for (int j = 0; j < row.length; j++) {
                left[j] = left[j].subtract(times.multiply(row[j]));
            }
        }
        return leadOf(left) == left.length;
    }
}
