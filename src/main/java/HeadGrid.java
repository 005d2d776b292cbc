import java.util.Arrays;

/**
 * Steady groundwater heads on a grid of 3 by 3 cells with 12 edge points of fixed heads.
 *
 * <p>Exact values are held as whole numbers over one common denominator, the determinant of the balance
 * equations. No row of the matrix is longer than the root of 80, so no minor of it exceeds 4 * 10^8; and each cell
 * is at most 9 links from an edge point, so no head is further than 82,000 from 0. Every product here stays far
 * inside a long.
 */
public final class HeadGrid {
    /** There is no such thing. */
    public static final int NONE = -1;

    private static final int SIZE = 3;
    private static final int CELLS = 9;
    private static final int POINTS = 12;
    private static final int LINKS = 24;
    private static final int FIRST_VERTICAL = 12;

    private static final int SIDES = 4;
    private static final int NORTH = 0;
    private static final int EAST = 1;
    private static final int SOUTH = 2;

    private static final int FIRST_CONDUCTANCE = 1;
    private static final int FIRST_EDGE_HEAD = 100;
    private static final int MOST_CONDUCTANCE = 2;
    private static final int MOST = 1000;
    private static final int MOST_SWEEPS = 100;
    private static final int MOST_SAVED = 4;
    private static final int PAIR_FACTOR = 10000;

    private static final long HASH_START = 2819;
    private static final long HASH_FACTOR = 31;

    // Euclid's algorithm needs at most 91 steps for two longs.
    private static final int MOST_EUCLID_STEPS = 100;

    private static final int LEAST_EXPONENT = -1022;
    private static final int MOST_EXPONENT = 1023;
    private static final int EXPONENT_BIAS = 1023;
    private static final int FRACTION_BITS = 52;
    private static final long SIGN_BIT = 1L << 63;

    // An end below CELLS is a cell, an end from CELLS on is the edge point (end - CELLS).
    private static final int[] FIRST_ENDS = {
        18, 0, 1, 2, 19, 3, 4, 5, 20, 6, 7, 8,
        9, 0, 3, 6, 10, 1, 4, 7, 11, 2, 5, 8,
    };
    private static final int[] SECOND_ENDS = {
        0, 1, 2, 12, 3, 4, 5, 13, 6, 7, 8, 14,
        0, 3, 6, 15, 1, 4, 7, 16, 2, 5, 8, 17,
    };

    private final State now;
    private final State[] saved;
    private int savedCount;

    private final Solution solution;
    private boolean solved;

    // Rows of the searches for rates, kept so that no call makes new ones.
    private final long[] slack;
    private final long[] cost;

    public HeadGrid() {
        now = new State();
        saved = new State[MOST_SAVED];
        for (int i = 0; i < MOST_SAVED; i++) {
            saved[i] = new State();
        }
        savedCount = 0;
        solution = new Solution();
        solved = false;
        slack = new long[CELLS];
        cost = new long[CELLS];
    }

    // ---- settings

    public int setLink(int link, int conductance) throws IndexOutOfBoundsException, IllegalArgumentException {
        requireLink(link);
        requireRange(conductance, MOST_CONDUCTANCE);
        saveNow();
        return exchange(now.conductances, link, conductance);
    }

    public int setEdge(int point, int head) throws IndexOutOfBoundsException, IllegalArgumentException {
        requirePoint(point);
        requireRange(head, MOST);
        saveNow();
        return exchange(now.edgeHeads, point, head);
    }

    public int setRecharge(int cell, int recharge) throws IndexOutOfBoundsException, IllegalArgumentException {
        requireCell(cell);
        requireRange(recharge, MOST);
        saveNow();
        return exchange(now.recharges, cell, recharge);
    }

    public int setRate(int cell, int rate) throws IndexOutOfBoundsException, IllegalArgumentException {
        requireCell(cell);
        requireRange(rate, MOST);
        saveNow();
        return exchange(now.rates, cell, rate);
    }

    public int setLevels(int cell, int floor, int limit) throws IndexOutOfBoundsException, IllegalArgumentException {
        requireCell(cell);
        requireRange(floor, MOST);
        requireRange(limit, MOST);
        saveNow();
        exchange(now.floors, cell, floor);
        return exchange(now.limits, cell, limit);
    }

    public boolean isLoose() {
        return commonDenominator() == 0;
    }

    // ---- exact values

    public long head(int cell, int part)
            throws IndexOutOfBoundsException, IllegalArgumentException, ArithmeticException {
        requireCell(cell);
        requirePart(part);
        requireExactHeads();
        return partOf(solution.scaledHeads[cell], part);
    }

    public long flow(int link, int part)
            throws IndexOutOfBoundsException, IllegalArgumentException, ArithmeticException {
        requireLink(link);
        requirePart(part);
        requireExactHeads();
        return partOf(scaledFlow(link), part);
    }

    public long inflow(int side, int part)
            throws IndexOutOfBoundsException, IllegalArgumentException, ArithmeticException {
        requireSide(side);
        requirePart(part);
        requireExactHeads();
        return partOf(scaledInflow(side), part);
    }

    public long influence(int i, int j, int part)
            throws IndexOutOfBoundsException, IllegalArgumentException, ArithmeticException {
        requireCell(i);
        requireCell(j);
        requirePart(part);
        requireExactHeads();
        return partOf(solution.scaledInfluence(i, j), part);
    }

    public long drawdown(int cell, int part)
            throws IndexOutOfBoundsException, IllegalArgumentException, ArithmeticException {
        requireCell(cell);
        requirePart(part);
        requireExactHeads();
        long sum = 0;
        for (int j = 0; j < CELLS; j++) {
            sum += solution.scaledInfluence(cell, j) * now.rates[j];
        }
        return partOf(sum, part);
    }

    public long determinant() {
        return commonDenominator();
    }

    public int extreme(boolean highest) throws ArithmeticException {
        requireExactHeads();
        long[] heads = solution.scaledHeads;
        int best = 0;
        for (int cell = 1; cell < CELLS; cell++) {
            boolean better = highest ? heads[cell] > heads[best] : heads[cell] < heads[best];
            if (better) {
                best = cell;
            }
        }
        return best;
    }

    public int dry() throws ArithmeticException {
        requireExactHeads();
        return cellsBelow(now.floors);
    }

    // ---- rates

    public boolean isAllowed() throws ArithmeticException {
        requireExactHeads();
        return cellsBelow(now.limits) == 0;
    }

    public int greatestRate(int cell) throws IndexOutOfBoundsException, ArithmeticException {
        requireCell(cell);
        requireExactHeads();
        return greatestCommonRate(1 << cell);
    }

    public int greatestEqual(int cells) throws IllegalArgumentException, ArithmeticException {
        requireCellSet(cells);
        requireExactHeads();
        return greatestCommonRate(cells);
    }

    public int bestPair(int a, int b)
            throws IndexOutOfBoundsException, IllegalArgumentException, ArithmeticException {
        requireCell(a);
        requireCell(b);
        requireDifferent(a, b);
        requireExactHeads();
        return bestRates(a, b);
    }

    // ---- relaxation

    public double relax(int sweeps) throws IllegalArgumentException {
        requireRange(sweeps, MOST_SWEEPS);
        saveNow();
        double change = 0.0;
        for (int i = 0; i < sweeps; i++) {
            change = sweepOnce();
        }
        return change;
    }

    public double relaxed(int cell) throws IndexOutOfBoundsException {
        requireCell(cell);
        return now.relaxedHeads[cell];
    }

    public double error() throws ArithmeticException {
        requireExactHeads();
        double greatest = 0.0;
        for (int cell = 0; cell < CELLS; cell++) {
            double difference = distance(now.relaxedHeads[cell], exactHeadAsDouble(cell));
            greatest = difference > greatest ? difference : greatest;
        }
        return greatest;
    }

    // ---- state

    public int undo() throws IllegalStateException {
        requireSavedState();
        savedCount--;
        now.copyFrom(saved[savedCount]);
        solved = false;
        return savedCount;
    }

    public long digest() {
        long denominator = commonDenominator();
        long hash = mixAll(HASH_START, now.conductances);
        hash = mixAll(hash, now.edgeHeads);
        for (int cell = 0; cell < CELLS; cell++) {
            hash = mix(hash, now.recharges[cell]);
            hash = mix(hash, now.rates[cell]);
            hash = mix(hash, now.floors[cell]);
            hash = mix(hash, now.limits[cell]);
            hash = mix(hash, bitsOf(now.relaxedHeads[cell]));
        }
        hash = mix(hash, denominator);
        if (denominator != 0) {
            hash = mixHeads(hash);
        }
        return mix(hash, savedCount);
    }

    // ---- tests of arguments and of the state

    private static void requireLink(int link) {
        if (link < 0 || link >= LINKS) {
            throw new IndexOutOfBoundsException("there is no such link");
        }
    }

    private static void requirePoint(int point) {
        if (point < 0 || point >= POINTS) {
            throw new IndexOutOfBoundsException("there is no such edge point");
        }
    }

    private static void requireCell(int cell) {
        if (cell < 0 || cell >= CELLS) {
            throw new IndexOutOfBoundsException("there is no such cell");
        }
    }

    private static void requireSide(int side) {
        if (side < 0 || side >= SIDES) {
            throw new IndexOutOfBoundsException("there is no such side");
        }
    }

    private static void requireRange(int value, int most) {
        if (value < 0 || value > most) {
            throw new IllegalArgumentException("a value is out of range");
        }
    }

    private static void requirePart(int part) {
        if (part != 0 && part != 1) {
            throw new IllegalArgumentException("part is neither 0 nor 1");
        }
    }

    private static void requireCellSet(int cells) {
        if (cells <= 0 || cells >= 1 << CELLS) {
            throw new IllegalArgumentException("cells is empty or contains a cell that does not exist");
        }
    }

    private static void requireDifferent(int a, int b) {
        if (a == b) {
            throw new IllegalArgumentException("a equals b");
        }
    }

    private void requireExactHeads() {
        if (commonDenominator() == 0) {
            throw new ArithmeticException("the grid is loose");
        }
    }

    private void requireSavedState() {
        if (savedCount == 0) {
            throw new IllegalStateException("there is no saved state");
        }
    }

    // ---- saved states

    /** Every change passes here or through undo, so only these two tell that the solution is out of date. */
    private void saveNow() {
        if (savedCount == MOST_SAVED) {
            dropOldest();
        }
        saved[savedCount].copyFrom(now);
        savedCount++;
        solved = false;
    }

    /** The dropped state goes to the end of the row, to be filled again instead of making a new one. */
    private void dropOldest() {
        State oldest = saved[0];
        for (int i = 1; i < MOST_SAVED; i++) {
            saved[i - 1] = saved[i];
        }
        saved[MOST_SAVED - 1] = oldest;
        savedCount--;
    }

    private static int exchange(int[] values, int index, int value) {
        int previous = values[index];
        values[index] = value;
        return previous;
    }

    // ---- exact values over the common denominator

    /** The determinant of the balance equations; it is 0 exactly if the grid is loose. */
    private long commonDenominator() {
        if (!solved) {
            solution.solve(now);
            solved = true;
        }
        return solution.denominator;
    }

    private long scaledHeadOfEnd(int end) {
        if (end < CELLS) {
            return solution.scaledHeads[end];
        }
        return solution.denominator * now.edgeHeads[end - CELLS];
    }

    private long scaledFlow(int link) {
        long fall = scaledHeadOfEnd(FIRST_ENDS[link]) - scaledHeadOfEnd(SECOND_ENDS[link]);
        return now.conductances[link] * fall;
    }

    /** In the north and the west the edge points are first ends, so there the flow goes inward. */
    private long scaledInflow(int side) {
        boolean vertical = side == NORTH || side == SOUTH;
        boolean outward = side == EAST || side == SOUTH;
        int firstLink = (vertical ? FIRST_VERTICAL : 0) + (outward ? SIZE : 0);
        long sum = 0;
        for (int i = 0; i < SIZE; i++) {
            sum += scaledFlow(firstLink + (SIZE + 1) * i);
        }
        return outward ? -sum : sum;
    }

    private int cellsBelow(int[] levels) {
        int cells = 0;
        for (int cell = 0; cell < CELLS; cell++) {
            if (solution.scaledHeads[cell] < solution.denominator * levels[cell]) {
                cells |= 1 << cell;
            }
        }
        return cells;
    }

    /** A part of the fraction scaled / denominator in lowest terms. */
    private long partOf(long scaled, int part) {
        long divisor = commonDivisor(scaled, solution.denominator);
        return (part == 0 ? scaled : solution.denominator) / divisor;
    }

    /** At least 1, so that it may always divide. */
    private static long commonDivisor(long a, long b) {
        long larger = Math.abs(a);
        long smaller = Math.abs(b);
        for (int step = 0; step < MOST_EUCLID_STEPS && smaller != 0; step++) {
            long rest = larger % smaller;
            larger = smaller;
            smaller = rest;
        }
        return Math.max(larger, 1);
    }

    // ---- searches for rates

    /** How far the heads, multiplied by the denominator, lie above the limits if the wells of a set rest. */
    private void fillSlack(int restingCells) {
        for (int i = 0; i < CELLS; i++) {
            long sum = solution.scaledHeads[i] - solution.denominator * now.limits[i];
            for (int j = 0; j < CELLS; j++) {
                if ((restingCells >> j & 1) != 0) {
                    sum += solution.scaledInfluence(i, j) * now.rates[j];
                }
            }
            slack[i] = sum;
        }
    }

    /** How much of the slack is lost if each well of a set pumps 1 more. */
    private void fillCost(int pumpingCells) {
        for (int i = 0; i < CELLS; i++) {
            long sum = 0;
            for (int j = 0; j < CELLS; j++) {
                if ((pumpingCells >> j & 1) != 0) {
                    sum += solution.scaledInfluence(i, j);
                }
            }
            cost[i] = sum;
        }
    }

    /** The greatest rate that the slack pays for; no influence is negative, so all smaller ones are paid too. */
    private int greatestPaidRate() {
        long rate = MOST;
        for (int i = 0; i < CELLS; i++) {
            if (slack[i] < 0) {
                return NONE;
            }
            if (cost[i] > 0) {
                rate = Math.min(rate, slack[i] / cost[i]);
            }
        }
        return (int) rate;
    }

    private int greatestCommonRate(int cells) {
        fillSlack(cells);
        fillCost(cells);
        return greatestPaidRate();
    }

    /** The rates of a rise from 0, so the first of several greatest sums has the smallest rate of a. */
    private int bestRates(int a, int b) {
        fillSlack(1 << a | 1 << b);
        fillCost(1 << b);
        int best = NONE;
        int bestSum = -1;
        for (int rateOfA = 0; rateOfA <= MOST; rateOfA++) {
            int rateOfB = greatestPaidRate();
            if (rateOfB == NONE) {
                break;
            }
            if (rateOfA + rateOfB > bestSum) {
                bestSum = rateOfA + rateOfB;
                best = PAIR_FACTOR * rateOfA + rateOfB;
            }
            payForOne(a);
        }
        return best;
    }

    private void payForOne(int cell) {
        for (int i = 0; i < CELLS; i++) {
            slack[i] -= solution.scaledInfluence(i, cell);
        }
    }

    // ---- relaxation in floating point

    /** Returns the greatest absolute change. */
    private double sweepOnce() {
        double greatest = 0.0;
        for (int cell = 0; cell < CELLS; cell++) {
            double before = now.relaxedHeads[cell];
            double after = sweptHead(cell);
            now.relaxedHeads[cell] = after;
            double change = distance(after, before);
            greatest = change > greatest ? change : greatest;
        }
        return greatest;
    }

    private double sweptHead(int cell) {
        double sum = 0.0;
        int conductances = 0;
        for (int side = 0; side < SIDES; side++) {
            int link = linkOf(cell, side);
            int conductance = now.conductances[link];
            sum = sum + (double) conductance * relaxedHeadOfEnd(otherEnd(link, cell));
            conductances += conductance;
        }
        if (conductances == 0) {
            return now.relaxedHeads[cell];
        }
        return (sum + (double) (now.recharges[cell] - now.rates[cell])) / (double) conductances;
    }

    private double relaxedHeadOfEnd(int end) {
        return end < CELLS ? now.relaxedHeads[end] : (double) now.edgeHeads[end - CELLS];
    }

    private double exactHeadAsDouble(int cell) {
        long scaled = solution.scaledHeads[cell];
        return (double) partOf(scaled, 0) / (double) partOf(scaled, 1);
    }

    private static double distance(double x, double y) {
        double difference = x - y;
        return difference < 0.0 ? -difference : difference;
    }

    // ---- the place of the links

    /** The link of a cell on its northern, eastern, southern or western side. */
    private static int linkOf(int cell, int side) {
        int row = cell / SIZE;
        int column = cell % SIZE;
        switch (side) {
            case NORTH:
                return FIRST_VERTICAL + (SIZE + 1) * column + row;
            case EAST:
                return (SIZE + 1) * row + column + 1;
            case SOUTH:
                return FIRST_VERTICAL + (SIZE + 1) * column + row + 1;
            default:
                return (SIZE + 1) * row + column;
        }
    }

    private static int otherEnd(int link, int cell) {
        return FIRST_ENDS[link] == cell ? SECOND_ENDS[link] : FIRST_ENDS[link];
    }

    // ---- the hash

    private static long mix(long hash, long value) {
        return HASH_FACTOR * hash + value;
    }

    private static long mixAll(long hash, int[] values) {
        long mixed = hash;
        for (int value : values) {
            mixed = mix(mixed, value);
        }
        return mixed;
    }

    private long mixHeads(long hash) {
        long mixed = hash;
        for (int cell = 0; cell < CELLS; cell++) {
            long scaled = solution.scaledHeads[cell];
            mixed = mix(mixed, partOf(scaled, 0));
            mixed = mix(mixed, partOf(scaled, 1));
        }
        return mixed;
    }

    /**
     * What Double.doubleToLongBits gives, which the language rules leave out. Relaxed heads are finite, as a sweep
     * moves none beyond the others by more than 9000; but they may decay to subnormal numbers, and to -0.0.
     */
    private static long bitsOf(double value) {
        if (value == 0.0) {
            // The sign of a zero shows only in the infinity that it makes.
            return 1.0 / value < 0.0 ? SIGN_BIT : 0;
        }
        long sign = value < 0.0 ? SIGN_BIT : 0;
        double scaled = value < 0.0 ? -value : value;
        int exponent = 0;
        while (scaled >= 2.0 && exponent < MOST_EXPONENT) {
            scaled = scaled / 2.0;
            exponent++;
        }
        while (scaled < 1.0 && exponent > LEAST_EXPONENT) {
            scaled = scaled * 2.0;
            exponent--;
        }
        long one = 1L << FRACTION_BITS;
        long digits = (long) (scaled * (double) one);
        if (digits < one) {
            return sign | digits;
        }
        return sign | (long) (exponent + EXPONENT_BIAS) << FRACTION_BITS | (digits - one);
    }

    /** Everything that a call can change and undo restores. */
    private static final class State {
        final int[] conductances;
        final int[] edgeHeads;
        final int[] recharges;
        final int[] rates;
        final int[] floors;
        final int[] limits;
        final double[] relaxedHeads;

        State() {
            conductances = new int[LINKS];
            Arrays.fill(conductances, FIRST_CONDUCTANCE);
            edgeHeads = new int[POINTS];
            Arrays.fill(edgeHeads, FIRST_EDGE_HEAD);
            recharges = new int[CELLS];
            rates = new int[CELLS];
            floors = new int[CELLS];
            limits = new int[CELLS];
            relaxedHeads = new double[CELLS];
        }

        void copyFrom(State other) {
            System.arraycopy(other.conductances, 0, conductances, 0, LINKS);
            System.arraycopy(other.edgeHeads, 0, edgeHeads, 0, POINTS);
            System.arraycopy(other.recharges, 0, recharges, 0, CELLS);
            System.arraycopy(other.rates, 0, rates, 0, CELLS);
            System.arraycopy(other.floors, 0, floors, 0, CELLS);
            System.arraycopy(other.limits, 0, limits, 0, CELLS);
            System.arraycopy(other.relaxedHeads, 0, relaxedHeads, 0, CELLS);
        }
    }

    /** The solution of the balance equations; what is scaled is multiplied by the denominator and so whole. */
    private static final class Solution {
        // On the left the matrix, on the right first the unit matrix and in the end the scaled inverse.
        private final long[][] rows;
        private final long[] supplies;
        final long[] scaledHeads;
        long denominator;

        Solution() {
            rows = new long[CELLS][2 * CELLS];
            supplies = new long[CELLS];
            scaledHeads = new long[CELLS];
            denominator = 0;
        }

        /** The fall of the head of cell i if the rate of cell j rises by 1. */
        long scaledInfluence(int i, int j) {
            return rows[i][CELLS + j];
        }

        void solve(State state) {
            fillUnitMatrix();
            fillSupplies(state);
            for (int link = 0; link < LINKS; link++) {
                addLink(state, link);
            }
            denominator = invert();
            if (denominator != 0) {
                fillScaledHeads();
            }
        }

        private void fillUnitMatrix() {
            for (int i = 0; i < CELLS; i++) {
                Arrays.fill(rows[i], 0);
                rows[i][CELLS + i] = 1;
            }
        }

        private void fillSupplies(State state) {
            for (int i = 0; i < CELLS; i++) {
                supplies[i] = state.recharges[i] - state.rates[i];
            }
        }

        private void addLink(State state, int link) {
            addEnd(state, link, FIRST_ENDS[link], SECOND_ENDS[link]);
            addEnd(state, link, SECOND_ENDS[link], FIRST_ENDS[link]);
        }

        private void addEnd(State state, int link, int end, int other) {
            if (end >= CELLS) {
                return;
            }
            long conductance = state.conductances[link];
            rows[end][end] += conductance;
            if (other < CELLS) {
                rows[end][other] -= conductance;
            } else {
                supplies[end] += conductance * state.edgeHeads[other - CELLS];
            }
        }

        /**
         * Elimination in whole numbers: each entry is a minor of the first rows, so the division by the pivot
         * before leaves no rest. A pivot is 0 only if some cells have no way to an edge point, and then the
         * determinant is 0 too; so no rows need be exchanged.
         */
        private long invert() {
            long pivotBefore = 1;
            for (int k = 0; k < CELLS; k++) {
                long pivot = rows[k][k];
                if (pivot == 0) {
                    return 0;
                }
                for (int i = 0; i < CELLS; i++) {
                    if (i != k) {
                        eliminate(i, k, pivot, pivotBefore);
                    }
                }
                pivotBefore = pivot;
            }
            return pivotBefore;
        }

        /** The caller has tested that pivotBefore is not 0. */
        private void eliminate(int i, int k, long pivot, long pivotBefore) {
            long factor = rows[i][k];
            for (int j = 0; j < 2 * CELLS; j++) {
                rows[i][j] = (pivot * rows[i][j] - factor * rows[k][j]) / pivotBefore;
            }
        }

        private void fillScaledHeads() {
            for (int i = 0; i < CELLS; i++) {
                long sum = 0;
                for (int j = 0; j < CELLS; j++) {
                    sum += scaledInfluence(i, j) * supplies[j];
                }
                scaledHeads[i] = sum;
            }
        }
    }
}
