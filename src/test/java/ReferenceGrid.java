import java.math.BigInteger;
import java.util.ArrayDeque;
import java.util.Deque;

/**
 * The document again, written in another way to compare with: rational elimination with exchange of rows, a search
 * for loose cells, influences by solving twice, greatest rates by trial.
 */
final class ReferenceGrid {
    private static final class Fraction {
        static final Fraction ZERO = of(0);
        final BigInteger numerator;
        final BigInteger denominator;

        Fraction(BigInteger n, BigInteger d) {
            BigInteger g = n.gcd(d).multiply(BigInteger.valueOf(d.signum()));
            numerator = n.divide(g);
            denominator = d.divide(g);
        }

        static Fraction of(long n) {
            return new Fraction(BigInteger.valueOf(n), BigInteger.ONE);
        }

        Fraction plus(Fraction o) {
            return new Fraction(numerator.multiply(o.denominator).add(o.numerator.multiply(denominator)),
                    denominator.multiply(o.denominator));
        }

        Fraction minus(Fraction o) {
            return plus(o.times(of(-1)));
        }

        Fraction times(Fraction o) {
            return new Fraction(numerator.multiply(o.numerator), denominator.multiply(o.denominator));
        }

        Fraction over(Fraction o) {
            return new Fraction(numerator.multiply(o.denominator), denominator.multiply(o.numerator));
        }

        int compareTo(Fraction o) {
            return numerator.multiply(o.denominator).compareTo(o.numerator.multiply(denominator));
        }

        long part(int part) {
            return (part == 0 ? numerator : denominator).longValueExact();
        }
    }

    private static final class Data {
        int[] links = new int[24];
        int[] edges = new int[12];
        int[] recharge = new int[9];
        int[] rate = new int[9];
        int[] floor = new int[9];
        int[] limit = new int[9];
        double[] relaxed = new double[9];

        Data copy() {
            Data d = new Data();
            d.links = links.clone();
            d.edges = edges.clone();
            d.recharge = recharge.clone();
            d.rate = rate.clone();
            d.floor = floor.clone();
            d.limit = limit.clone();
            d.relaxed = relaxed.clone();
            return d;
        }
    }

    private Data data = new Data();
    private final Deque<Data> savedStates = new ArrayDeque<>();

    ReferenceGrid() {
        java.util.Arrays.fill(data.links, 1);
        java.util.Arrays.fill(data.edges, 100);
    }

    // A place is row and column from -1 to 3; the edge points lie at -1 and 3.

    private static int[][] ends(int link) {
        int line = link % 12 / 4;
        int k = link % 4;
        return link < 12 ? new int[][] {{line, k - 1}, {line, k}} : new int[][] {{k - 1, line}, {k, line}};
    }

    private static boolean isCell(int[] place) {
        return place[0] >= 0 && place[0] <= 2 && place[1] >= 0 && place[1] <= 2;
    }

    private static int cellAt(int[] place) {
        return 3 * place[0] + place[1];
    }

    private static int pointAt(int[] place) {
        if (place[0] == -1) {
            return place[1];
        }
        if (place[1] == 3) {
            return 3 + place[0];
        }
        return place[0] == 3 ? 6 + place[1] : 9 + place[0];
    }

    private static int linkBetween(int[] p, int[] q) {
        for (int link = 0; link < 24; link++) {
            int[][] e = ends(link);
            if (same(e[0], p) && same(e[1], q) || same(e[0], q) && same(e[1], p)) {
                return link;
            }
        }
        throw new AssertionError("no link");
    }

    private static boolean same(int[] p, int[] q) {
        return p[0] == q[0] && p[1] == q[1];
    }

    private static int[][] around(int cell) {
        int r = cell / 3;
        int c = cell % 3;
        return new int[][] {{r - 1, c}, {r, c + 1}, {r + 1, c}, {r, c - 1}};
    }

    private static int linkToward(int cell, int[] place) {
        return linkBetween(new int[] {cell / 3, cell % 3}, place);
    }

    // Tests of arguments.

    private static void index(int value, int count) {
        if (value < 0 || value >= count) {
            throw new IndexOutOfBoundsException();
        }
    }

    private static void range(int value, int most) {
        if (value < 0 || value > most) {
            throw new IllegalArgumentException();
        }
    }

    private void tight() {
        if (isLoose()) {
            throw new ArithmeticException();
        }
    }

    private void save() {
        savedStates.addLast(data.copy());
        if (savedStates.size() > 4) {
            savedStates.removeFirst();
        }
    }

    // The face.

    int setLink(int link, int conductance) {
        index(link, 24);
        range(conductance, 2);
        save();
        int old = data.links[link];
        data.links[link] = conductance;
        return old;
    }

    int setEdge(int point, int head) {
        index(point, 12);
        range(head, 1000);
        save();
        int old = data.edges[point];
        data.edges[point] = head;
        return old;
    }

    int setRecharge(int cell, int recharge) {
        index(cell, 9);
        range(recharge, 1000);
        save();
        int old = data.recharge[cell];
        data.recharge[cell] = recharge;
        return old;
    }

    int setRate(int cell, int rate) {
        index(cell, 9);
        range(rate, 1000);
        save();
        int old = data.rate[cell];
        data.rate[cell] = rate;
        return old;
    }

    int setLevels(int cell, int floor, int limit) {
        index(cell, 9);
        range(floor, 1000);
        range(limit, 1000);
        save();
        int old = data.limit[cell];
        data.floor[cell] = floor;
        data.limit[cell] = limit;
        return old;
    }

    boolean isLoose() {
        boolean[] reached = new boolean[9];
        for (int round = 0; round < 10; round++) {
            for (int link = 0; link < 24; link++) {
                if (data.links[link] > 0) {
                    int[][] e = ends(link);
                    boolean wet = !isCell(e[0]) || !isCell(e[1]) || reached[cellAt(e[0])] || reached[cellAt(e[1])];
                    for (int[] end : e) {
                        if (wet && isCell(end)) {
                            reached[cellAt(end)] = true;
                        }
                    }
                }
            }
        }
        for (boolean r : reached) {
            if (!r) {
                return true;
            }
        }
        return false;
    }

    private Fraction[][] matrix() {
        Fraction[][] m = new Fraction[9][9];
        for (Fraction[] row : m) {
            java.util.Arrays.fill(row, Fraction.ZERO);
        }
        for (int cell = 0; cell < 9; cell++) {
            for (int[] place : around(cell)) {
                Fraction c = Fraction.of(data.links[linkToward(cell, place)]);
                m[cell][cell] = m[cell][cell].plus(c);
                if (isCell(place)) {
                    m[cell][cellAt(place)] = m[cell][cellAt(place)].minus(c);
                }
            }
        }
        return m;
    }

    private Fraction[] rightSide(int[] rates) {
        Fraction[] b = new Fraction[9];
        for (int cell = 0; cell < 9; cell++) {
            long sum = data.recharge[cell] - rates[cell];
            for (int[] place : around(cell)) {
                if (!isCell(place)) {
                    sum += (long) data.links[linkToward(cell, place)] * data.edges[pointAt(place)];
                }
            }
            b[cell] = Fraction.of(sum);
        }
        return b;
    }

    private Fraction[] headsWith(int[] rates) {
        Fraction[][] m = matrix();
        Fraction[] b = rightSide(rates);
        eliminate(m, b);
        Fraction[] x = new Fraction[9];
        for (int i = 0; i < 9; i++) {
            x[i] = b[i].over(m[i][i]);
        }
        return x;
    }

    /** Makes m diagonal and returns its determinant. */
    private static Fraction eliminate(Fraction[][] m, Fraction[] b) {
        Fraction det = Fraction.of(1);
        for (int k = 0; k < 9; k++) {
            int p = 8;
            while (p > k && m[p][k].numerator.signum() == 0) {
                p--;
            }
            if (m[p][k].numerator.signum() == 0) {
                return Fraction.ZERO;
            }
            if (p != k) {
                Fraction[] row = m[p];
                m[p] = m[k];
                m[k] = row;
                Fraction value = b[p];
                b[p] = b[k];
                b[k] = value;
                det = det.times(Fraction.of(-1));
            }
            det = det.times(m[k][k]);
            for (int i = 0; i < 9; i++) {
                if (i != k) {
                    Fraction f = m[i][k].over(m[k][k]);
                    for (int j = 0; j < 9; j++) {
                        m[i][j] = m[i][j].minus(f.times(m[k][j]));
                    }
                    b[i] = b[i].minus(f.times(b[k]));
                }
            }
        }
        return det;
    }

    private Fraction[] heads() {
        return headsWith(data.rate);
    }

    long head(int cell, int part) {
        index(cell, 9);
        range(part, 1);
        tight();
        return heads()[cell].part(part);
    }

    private Fraction headAt(Fraction[] heads, int[] place) {
        return isCell(place) ? heads[cellAt(place)] : Fraction.of(data.edges[pointAt(place)]);
    }

    private Fraction flowOf(Fraction[] heads, int link) {
        int[][] e = ends(link);
        return Fraction.of(data.links[link]).times(headAt(heads, e[0]).minus(headAt(heads, e[1])));
    }

    long flow(int link, int part) {
        index(link, 24);
        range(part, 1);
        tight();
        return flowOf(heads(), link).part(part);
    }

    long inflow(int side, int part) {
        index(side, 4);
        range(part, 1);
        tight();
        Fraction[] heads = heads();
        Fraction sum = Fraction.ZERO;
        for (int link = 0; link < 24; link++) {
            int[][] e = ends(link);
            if (!isCell(e[0]) && pointAt(e[0]) / 3 == side) {
                sum = sum.plus(flowOf(heads, link));
            }
            if (!isCell(e[1]) && pointAt(e[1]) / 3 == side) {
                sum = sum.minus(flowOf(heads, link));
            }
        }
        return sum.part(part);
    }

    private Fraction influenceOf(int i, int j) {
        int[] more = data.rate.clone();
        more[j]++;
        return heads()[i].minus(headsWith(more)[i]);
    }

    long influence(int i, int j, int part) {
        index(i, 9);
        index(j, 9);
        range(part, 1);
        tight();
        return influenceOf(i, j).part(part);
    }

    long drawdown(int cell, int part) {
        index(cell, 9);
        range(part, 1);
        tight();
        return headsWith(new int[9])[cell].minus(heads()[cell]).part(part);
    }

    long determinant() {
        return eliminate(matrix(), rightSide(data.rate)).part(0);
    }

    int extreme(boolean highest) {
        tight();
        Fraction[] heads = heads();
        int best = 0;
        for (int i = 1; i < 9; i++) {
            int order = heads[i].compareTo(heads[best]);
            if (highest ? order > 0 : order < 0) {
                best = i;
            }
        }
        return best;
    }

    int dry() {
        tight();
        Fraction[] heads = heads();
        int set = 0;
        for (int i = 0; i < 9; i++) {
            if (heads[i].compareTo(Fraction.of(data.floor[i])) < 0) {
                set += 1 << i;
            }
        }
        return set;
    }

    private boolean allowed(int[] rates) {
        Fraction[] heads = headsWith(rates);
        for (int i = 0; i < 9; i++) {
            if (heads[i].compareTo(Fraction.of(data.limit[i])) < 0) {
                return false;
            }
        }
        return true;
    }

    boolean isAllowed() {
        tight();
        return allowed(data.rate);
    }

    private boolean allowedWith(int cells, int rate) {
        int[] rates = data.rate.clone();
        for (int i = 0; i < 9; i++) {
            if ((cells & 1 << i) != 0) {
                rates[i] = rate;
            }
        }
        return allowed(rates);
    }

    private int greatestOf(int cells) {
        if (!allowedWith(cells, 0)) {
            return -1;
        }
        int good = 0;
        int bad = 1001;
        while (bad - good > 1) {
            int middle = (good + bad) / 2;
            if (allowedWith(cells, middle)) {
                good = middle;
            } else {
                bad = middle;
            }
        }
        return good;
    }

    int greatestRate(int cell) {
        index(cell, 9);
        tight();
        return greatestOf(1 << cell);
    }

    int greatestEqual(int cells) {
        if (cells == 0 || (cells & ~511) != 0) {
            throw new IllegalArgumentException();
        }
        tight();
        return greatestOf(cells);
    }

    int bestPair(int a, int b) {
        index(a, 9);
        index(b, 9);
        if (a == b) {
            throw new IllegalArgumentException();
        }
        tight();
        return bestPairByTrial(a, b);
    }

    /** All pairs of rates are tried, in whole multiples of a common denominator. */
    private int bestPairByTrial(int a, int b) {
        int[] rates = data.rate.clone();
        rates[a] = 0;
        rates[b] = 0;
        Fraction det = Fraction.of(determinant());
        Fraction[] heads = headsWith(rates);
        long[] above = new long[9];
        long[] byA = new long[9];
        long[] byB = new long[9];
        for (int i = 0; i < 9; i++) {
            above[i] = heads[i].minus(Fraction.of(data.limit[i])).times(det).part(0);
            byA[i] = influenceOf(i, a).times(det).part(0);
            byB[i] = influenceOf(i, b).times(det).part(0);
        }
        int bestA = -1;
        int bestB = -1;
        for (int ra = 0; ra <= 1000; ra++) {
            for (int rb = 0; rb <= 1000; rb++) {
                if (ra + rb > bestA + bestB && paid(above, byA, byB, ra, rb)) {
                    bestA = ra;
                    bestB = rb;
                }
            }
        }
        return bestA < 0 ? -1 : 10000 * bestA + bestB;
    }

    private static boolean paid(long[] above, long[] byA, long[] byB, int ra, int rb) {
        for (int i = 0; i < 9; i++) {
            if (above[i] < ra * byA[i] + rb * byB[i]) {
                return false;
            }
        }
        return true;
    }

    double relax(int sweeps) {
        range(sweeps, 100);
        save();
        double change = 0.0;
        for (int n = 0; n < sweeps; n++) {
            change = 0.0;
            for (int cell = 0; cell < 9; cell++) {
                double s = 0.0;
                double c = 0.0;
                for (int[] place : around(cell)) {
                    double g = data.links[linkToward(cell, place)];
                    s += g * (isCell(place) ? data.relaxed[cellAt(place)] : (double) data.edges[pointAt(place)]);
                    c += g;
                }
                if (c != 0.0) {
                    double next = (s + (data.recharge[cell] - data.rate[cell])) / c;
                    change = Math.max(change, Math.abs(next - data.relaxed[cell]));
                    data.relaxed[cell] = next;
                }
            }
        }
        return change;
    }

    double relaxed(int cell) {
        index(cell, 9);
        return data.relaxed[cell];
    }

    double error() {
        tight();
        Fraction[] heads = heads();
        double most = 0.0;
        for (int i = 0; i < 9; i++) {
            most = Math.max(most, Math.abs(data.relaxed[i] - (double) heads[i].part(0) / (double) heads[i].part(1)));
        }
        return most;
    }

    int undo() {
        if (savedStates.isEmpty()) {
            throw new IllegalStateException();
        }
        data = savedStates.removeLast();
        return savedStates.size();
    }

    long digest() {
        long h = 2819;
        for (int v : data.links) {
            h = 31 * h + v;
        }
        for (int v : data.edges) {
            h = 31 * h + v;
        }
        for (int i = 0; i < 9; i++) {
            h = 31 * h + data.recharge[i];
            h = 31 * h + data.rate[i];
            h = 31 * h + data.floor[i];
            h = 31 * h + data.limit[i];
            h = 31 * h + Double.doubleToLongBits(data.relaxed[i]);
        }
        h = 31 * h + determinant();
        if (!isLoose()) {
            for (Fraction head : heads()) {
                h = 31 * h + head.part(0);
                h = 31 * h + head.part(1);
            }
        }
        return 31 * h + savedStates.size();
    }
}
