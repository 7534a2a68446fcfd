/**
 * Equations of whole numbers: their solutions, the sums that they can reach, and counts of solutions.
 *
 * <p>All answers come from one lattice. Each unknown has a row in it: first its factors in the
 * equations, then 1 at its own place. In the form of that lattice the rows with a lead among the
 * equations are the reach, each with unknowns that reach it; the others are the basis.
 */
public final class WholeSolver {
    /** There is none, or nothing is done. */
    public static final int NONE = -1;
    /** No such number. */
    public static final long NOTHING = -1000000000000000L;

    private static final int MOST_UNKNOWNS = 4;
    private static final int MOST_EQUATIONS = 3;
    private static final int MOST_COLUMNS = MOST_EQUATIONS + MOST_UNKNOWNS;
    private static final int MOST_FACTOR = 9;
    private static final int MOST_SUM = 1000;
    private static final int MOST_SIDE = 12;
    private static final int MOST_MODULUS = 40;
    /** Dividing out two longs never needs as many steps. */
    private static final int MOST_STEPS = 200;
    /** More turns of a basis row than any box has. */
    private static final long MANY_TURNS = 1000000000000000L;

    private final int[][] factors;
    private final int[] sums;
    private int unknownsTold;
    private int equationsTold;

    private final Lattice whole;
    private final Lattice remainders;
    private int reachRows;

    /** What the form leaves of the sums: 0 for each equation, then the solution. */
    private final long[] left;
    private int failing;

    private final long[] trial;
    /** Row i holds the unknowns once the turns of the basis rows before i are chosen. */
    private final long[][] spots;

    public WholeSolver() {
        factors = new int[MOST_EQUATIONS][MOST_UNKNOWNS];
        sums = new int[MOST_EQUATIONS];
        whole = new Lattice(MOST_UNKNOWNS, MOST_COLUMNS);
        remainders = new Lattice(MOST_EQUATIONS + MOST_EQUATIONS, MOST_EQUATIONS);
        left = new long[MOST_COLUMNS];
        trial = new long[MOST_COLUMNS];
        spots = new long[MOST_UNKNOWNS + 1][MOST_UNKNOWNS];
        unknownsTold = 1;
        equationsTold = 0;
        formWhole();
    }

    public int unknowns(int n) {
        if (n < 1 || n > MOST_UNKNOWNS) {
            return 0;
        }
        unknownsTold = n;
        equationsTold = 0;
        formWhole();
        return 1;
    }

    public int equation(int a, int b, int c, int d, int sum) {
        if (equationsTold >= MOST_EQUATIONS || !isSum(sum)) {
            return NONE;
        }
        if (!isFactor(0, a) || !isFactor(1, b) || !isFactor(2, c) || !isFactor(3, d)) {
            return NONE;
        }
        int e = equationsTold;
        factors[e][0] = a;
        factors[e][1] = b;
        factors[e][2] = c;
        factors[e][3] = d;
        sums[e] = sum;
        equationsTold = e + 1;
        formWhole();
        return e;
    }

    public int sum(int e, int sum) {
        if (e < 0 || e >= equationsTold || !isSum(sum)) {
            return 0;
        }
        sums[e] = sum;
        settleSolution();
        return 1;
    }

    public int drop() {
        if (equationsTold == 0) {
            return NONE;
        }
        equationsTold = equationsTold - 1;
        formWhole();
        return equationsTold;
    }

    public int solve() {
        return failing == NONE ? basisRows() : NONE;
    }

    public int fails() {
        return failing;
    }

    public long solution(int j) {
        if (failing != NONE || j < 0 || j >= unknownsTold) {
            return NOTHING;
        }
        return left[equationsTold + j];
    }

    public long basis(int i, int j) {
        if (i < 0 || i >= basisRows() || j < 0 || j >= unknownsTold) {
            return NOTHING;
        }
        return basisNumber(i, j);
    }

    public int count(int what) {
        switch (what) {
            case 0:
                return reachRows;
            case 1:
                return basisRows();
            case 2:
                return equationsTold;
            case 3:
                return unknownsTold;
            default:
                return NONE;
        }
    }

    public long reach(int i, int j) {
        if (i < 0 || i >= reachRows || j < 0 || j >= equationsTold) {
            return NOTHING;
        }
        return whole.at(i, j);
    }

    public int reached(int a, int b, int c) {
        fillWithZero(trial);
        trial[0] = a;
        trial[1] = b;
        trial[2] = c;
        // A sum without its equation stands among the unknowns, which touch no column before them.
        whole.reduce(trial);
        return firstNotZero(trial) == NONE ? 1 : 0;
    }

    public long invariant(int k) {
        if (k < 1 || k > equationsTold || k > unknownsTold) {
            return NOTHING;
        }
        long greatest = divisorOfDeterminants(k);
        long before = divisorOfDeterminants(k - 1);
        return before == 0 ? 0 : greatest / before;
    }

    public int box(int low, int high) {
        if (low < -MOST_SIDE || high > MOST_SIDE || high < low) {
            return NONE;
        }
        if (failing != NONE) {
            return 0;
        }
        for (int j = 0; j < unknownsTold; j++) {
            spots[0][j] = left[equationsTold + j];
        }
        return unmovedLieInside(low, high) ? (int) countFrom(0, low, high) : 0;
    }

    public int modulo(int m) {
        if (m < 1 || m > MOST_MODULUS) {
            return NONE;
        }
        formRemainders(m);
        fillWithZero(trial);
        for (int e = 0; e < equationsTold; e++) {
            trial[e] = sums[e];
        }
        remainders.reduce(trial);
        return firstNotZero(trial) == NONE ? (int) waysToEachSum(m) : 0;
    }

    public long spread() {
        if (failing != NONE) {
            return NONE;
        }
        long divisor = 0;
        for (int i = 0; i < basisRows(); i++) {
            for (int j = 0; j < unknownsTold; j++) {
                divisor = commonDivisor(divisor, basisNumber(i, j));
            }
        }
        return divisor;
    }

    public int check() {
        boolean right = failing != NONE || solutionHolds();
        for (int i = 0; i < unknownsTold; i++) {
            right = right && rowHolds(i);
        }
        return right ? 1 : 0;
    }

    private static boolean isSum(int sum) {
        return sum >= -MOST_SUM && sum <= MOST_SUM;
    }

    private boolean isFactor(int j, int factor) {
        return j >= unknownsTold || (factor >= -MOST_FACTOR && factor <= MOST_FACTOR);
    }

    private int basisRows() {
        return unknownsTold - reachRows;
    }

    private long basisNumber(int i, int j) {
        return whole.at(reachRows + i, equationsTold + j);
    }

    /** The unknown at which basis row i has its lead; behind the last row, the number of unknowns. */
    private int leadUnknown(int i) {
        return i < basisRows() ? whole.leadColumn(reachRows + i) - equationsTold : unknownsTold;
    }

    private void formWhole() {
        whole.clear(unknownsTold, equationsTold + unknownsTold);
        for (int j = 0; j < unknownsTold; j++) {
            for (int e = 0; e < equationsTold; e++) {
                whole.put(j, e, factors[e][j]);
            }
            whole.put(j, equationsTold + j, 1);
        }
        whole.bringToForm();
        reachRows = whole.leadsBefore(equationsTold);
        settleSolution();
    }

    /** Starts from the sums' negatives, so that what makes them 0 is the solution with its own sign. */
    private void settleSolution() {
        fillWithZero(left);
        for (int e = 0; e < equationsTold; e++) {
            left[e] = -sums[e];
        }
        whole.reduce(left);
        failing = firstNotZero(left);
    }

    /** The first equation whose number in the row is not 0. */
    private int firstNotZero(long[] row) {
        for (int e = 0; e < equationsTold; e++) {
            if (row[e] != 0) {
                return e;
            }
        }
        return NONE;
    }

    private static void fillWithZero(long[] row) {
        for (int j = 0; j < row.length; j++) {
            row[j] = 0;
        }
    }

    /** The greatest common divisor of all determinants of so many equations and unknowns. */
    private long divisorOfDeterminants(int size) {
        long divisor = 0;
        for (int chosen = 0; chosen < 1 << equationsTold; chosen++) {
            if (Integer.bitCount(chosen) == size) {
                divisor = commonDivisor(divisor, divisorOverUnknowns(chosen, size));
            }
        }
        return divisor;
    }

    private long divisorOverUnknowns(int equations, int size) {
        long divisor = 0;
        for (int chosen = 0; chosen < 1 << unknownsTold; chosen++) {
            if (Integer.bitCount(chosen) == size) {
                divisor = commonDivisor(divisor, determinant(0, equations, chosen));
            }
        }
        return divisor;
    }

    /** Of the chosen equations from e on and the chosen unknowns, both told as bits. */
    private long determinant(int e, int equations, int unknowns) {
        if (e >= equationsTold) {
            return 1;
        }
        if ((equations >> e & 1) == 0) {
            return determinant(e + 1, equations, unknowns);
        }
        long value = 0;
        long sign = 1;
        for (int j = 0; j < unknownsTold; j++) {
            if ((unknowns >> j & 1) == 1) {
                value += sign * factors[e][j] * determinant(e + 1, equations, unknowns - (1 << j));
                sign = -sign;
            }
        }
        return value;
    }

    private static long commonDivisor(long a, long b) {
        long greater = Math.abs(a);
        long less = Math.abs(b);
        for (int step = 0; step < MOST_STEPS && less != 0; step++) {
            long rest = greater % less;
            greater = less;
            less = rest;
        }
        return greater;
    }

    /** No basis row moves the unknowns before the first lead. */
    private boolean unmovedLieInside(int low, int high) {
        int end = leadUnknown(0);
        for (int j = 0; j < end; j++) {
            if (spots[0][j] < low || spots[0][j] > high) {
                return false;
            }
        }
        return true;
    }

    /** How many choices of turns of the basis rows from i on keep all unknowns from low to high. */
    private long countFrom(int i, int low, int high) {
        if (i >= basisRows()) {
            return 1;
        }
        long least = leastTurns(i, low, high);
        long most = mostTurns(i, low, high);
        if (most < least) {
            return 0;
        }
        if (leavesLaterUnknowns(i)) {
            turn(i, 0);
            return (most - least + 1) * countFrom(i + 1, low, high);
        }
        long total = 0;
        for (long turns = least; turns <= most; turns++) {
            turn(i, turns);
            total += countFrom(i + 1, low, high);
        }
        return total;
    }

    /** Looks at the unknowns that basis row i is the last to move: from its lead to the next one. */
    private long leastTurns(int i, int low, int high) {
        int end = leadUnknown(i + 1);
        long least = -MANY_TURNS;
        for (int j = leadUnknown(i); j < end; j++) {
            long step = basisNumber(i, j);
            long now = spots[i][j];
            if (step != 0) {
                int edge = step > 0 ? low : high;
                least = Math.max(least, -Math.floorDiv(now - edge, step));
            } else if (now < low || now > high) {
                least = MANY_TURNS;
            }
        }
        return least;
    }

    /** An unknown that stays outside is told by leastTurns alone. */
    private long mostTurns(int i, int low, int high) {
        int end = leadUnknown(i + 1);
        // One less than MANY_TURNS, so that no turns are left where leastTurns tells that many.
        long most = MANY_TURNS - 1;
        for (int j = leadUnknown(i); j < end; j++) {
            long step = basisNumber(i, j);
            if (step != 0) {
                int edge = step > 0 ? high : low;
                most = Math.min(most, Math.floorDiv(edge - spots[i][j], step));
            }
        }
        return most;
    }

    /** Then the choices of the later rows are the same for all turns of row i. */
    private boolean leavesLaterUnknowns(int i) {
        for (int j = leadUnknown(i + 1); j < unknownsTold; j++) {
            if (basisNumber(i, j) != 0) {
                return false;
            }
        }
        return true;
    }

    private void turn(int i, long turns) {
        for (int j = 0; j < unknownsTold; j++) {
            spots[i + 1][j] = spots[i][j] + turns * basisNumber(i, j);
        }
    }

    /** The lattice of all sums that are reached but for what m divides. */
    private void formRemainders(int m) {
        remainders.clear(reachRows + equationsTold, equationsTold);
        for (int e = 0; e < equationsTold; e++) {
            for (int i = 0; i < reachRows; i++) {
                remainders.put(i, e, whole.at(i, e));
            }
            remainders.put(reachRows + e, e, m);
        }
        remainders.bringToForm();
    }

    /**
     * Each row of remainders that is reached is reached equally often. Of all m^equations rows one in
     * (product of the leads) is reached, so each one m^unknowns * leads / m^equations times.
     */
    private long waysToEachSum(int m) {
        long ways = 1;
        for (int j = 0; j < unknownsTold; j++) {
            ways *= m;
        }
        long rows = 1;
        for (int e = 0; e < equationsTold; e++) {
            ways *= remainders.at(e, e);
            rows *= m;
        }
        return rows == 0 ? 0 : ways / rows;
    }

    private boolean solutionHolds() {
        for (int e = 0; e < equationsTold; e++) {
            if (sumOfUnknowns(e, left) != sums[e]) {
                return false;
            }
        }
        return true;
    }

    /** Whether the unknowns of row i have its sums: those of a basis row are 0. */
    private boolean rowHolds(int i) {
        for (int e = 0; e < equationsTold; e++) {
            if (sumOfUnknowns(e, whole.row(i)) != whole.at(i, e)) {
                return false;
            }
        }
        return true;
    }

    /** The sum that equation e has with the unknowns that stand behind the row's equations. */
    private long sumOfUnknowns(int e, long[] row) {
        long total = 0;
        for (int j = 0; j < unknownsTold; j++) {
            total += factors[e][j] * row[equationsTold + j];
        }
        return total;
    }

    /** Rows of numbers that are put in and then brought to the form of what comes of them. */
    private static final class Lattice {
        private final long[][] rows;
        private final int[] leads;
        private int height;
        private int width;
        private int rank;

        Lattice(int mostRows, int mostColumns) {
            rows = new long[mostRows][mostColumns];
            leads = new int[mostRows];
        }

        void clear(int newHeight, int newWidth) {
            height = newHeight;
            width = newWidth;
            rank = 0;
            for (int i = 0; i < height; i++) {
                fillWithZero(rows[i]);
            }
        }

        void put(int i, int j, long number) {
            rows[i][j] = number;
        }

        long at(int i, int j) {
            return rows[i][j];
        }

        long[] row(int i) {
            return rows[i];
        }

        int leadColumn(int i) {
            return leads[i];
        }

        int leadsBefore(int column) {
            int found = 0;
            for (int i = 0; i < rank; i++) {
                if (leads[i] < column) {
                    found++;
                }
            }
            return found;
        }

        void bringToForm() {
            for (int column = 0; column < width && rank < height; column++) {
                for (int i = rank + 1; i < height; i++) {
                    divideOut(rank, i, column);
                }
                if (rows[rank][column] != 0) {
                    addLead(column);
                }
            }
        }

        /** Leaves the greatest common divisor in the upper row's column, and 0 in the lower row's. */
        private void divideOut(int upper, int lower, int column) {
            for (int step = 0; step < MOST_STEPS && rows[lower][column] != 0; step++) {
                long times = Math.floorDiv(rows[upper][column], rows[lower][column]);
                for (int j = 0; j < width; j++) {
                    long rest = rows[upper][j] - times * rows[lower][j];
                    rows[upper][j] = rows[lower][j];
                    rows[lower][j] = rest;
                }
            }
        }

        private void addLead(int column) {
            if (rows[rank][column] < 0) {
                for (int j = 0; j < width; j++) {
                    rows[rank][j] = -rows[rank][j];
                }
            }
            leads[rank] = column;
            for (int i = 0; i < rank; i++) {
                reduceBy(rank, rows[i]);
            }
            rank++;
        }

        /** Takes rows away until at each lead's place there is from 0 to less than the lead. */
        void reduce(long[] numbers) {
            for (int i = 0; i < rank; i++) {
                reduceBy(i, numbers);
            }
        }

        private void reduceBy(int i, long[] numbers) {
            int column = leads[i];
            if (rows[i][column] == 0) {
                return;
            }
            long times = Math.floorDiv(numbers[column], rows[i][column]);
            for (int j = 0; j < width; j++) {
                numbers[j] -= times * rows[i][j];
            }
        }
    }
}
