/** Promise 24 from the document's words: which values are mixed, in which order, and how. */
public final class DigestTest {
    private static final Check CHECK = new Check();

    private final Asked asked = Asked.grid();
    private final int[] links = new int[24];
    private final int[] edges = new int[12];
    private final int[][] cells = new int[9][4];
    private int saved = 0;
    private boolean loose = false;

    private DigestTest() {
        java.util.Arrays.fill(links, 1);
        java.util.Arrays.fill(edges, 100);
    }

    public static void main(String[] args) {
        newObject();
        everyValue();
        numberOfSavedStates();
        looseGrids();
        signsOfHeads();
        smallHeads();
        sameStateSameHash();
        CHECK.finish();
    }

    private void set(String call) {
        asked.make(call);
        saved = Math.min(4, saved + 1);
    }

    private void link(int link, int value) {
        set("setLink(" + link + ", " + value + ")");
        links[link] = value;
    }

    private void edge(int point, int value) {
        set("setEdge(" + point + ", " + value + ")");
        edges[point] = value;
    }

    private void cell(int cell, int recharge, int rate, int floor, int limit) {
        set("setRecharge(" + cell + ", " + recharge + ")");
        set("setRate(" + cell + ", " + rate + ")");
        set("setLevels(" + cell + ", " + floor + ", " + limit + ")");
        cells[cell] = new int[] {recharge, rate, floor, limit};
    }

    private long number(String call) {
        return Long.parseLong(asked.answer(call));
    }

    /** What the document says, with the determinant, the exact and the relaxed heads as the object tells them. */
    private long due() {
        long h = 2819;
        for (int v : links) {
            h = 31 * h + v;
        }
        for (int v : edges) {
            h = 31 * h + v;
        }
        for (int cell = 0; cell < 9; cell++) {
            for (int v : cells[cell]) {
                h = 31 * h + v;
            }
            h = 31 * h + Double.doubleToLongBits(Double.parseDouble(asked.answer("relaxed(" + cell + ")")));
        }
        h = 31 * h + (loose ? 0 : number("determinant()"));
        for (int cell = 0; cell < 9 && !loose; cell++) {
            h = 31 * h + number("head(" + cell + ", 0)");
            h = 31 * h + number("head(" + cell + ", 1)");
        }
        return 31 * h + saved;
    }

    private void look(String sentence) {
        CHECK.due("24 " + sentence, asked.answer("digest()"), Long.toString(due()));
    }

    private static void newObject() {
        new DigestTest().look("a new object");
        CHECK.run("24 a new object", "digest() = " + new ReferenceGrid().digest());
    }

    /** All values are different from one another where they can be, so that an order shows. */
    private static DigestTest mixed() {
        DigestTest test = new DigestTest();
        for (int link = 0; link < 24; link++) {
            test.link(link, link * link % 5 == 1 ? 2 : 1);
        }
        for (int point = 0; point < 12; point++) {
            test.edge(point, 83 * point);
        }
        for (int cell = 0; cell < 9; cell++) {
            test.cell(cell, 100 + cell, 200 + cell * cell, 300 + 7 * cell, 400 + 11 * cell);
        }
        test.set("relax(3)");
        return test;
    }

    private static void everyValue() {
        mixed().look("all values are different");
        DigestTest ends = mixed();
        for (int link = 0; link < 24; link++) {
            ends.link(link, link % 2 == 0 ? 2 : 0);
            ends.link(link, link % 2 == 0 ? 2 : 1);
        }
        ends.look("after the conductances");
        for (int point = 0; point < 12; point++) {
            ends.edge(point, point % 2 == 0 ? 0 : 1000);
        }
        ends.look("edge points at 0 and 1000");
        for (int cell = 0; cell < 9; cell++) {
            ends.cell(cell, 1000 * (cell & 1), 1000 * (cell >> 1 & 1), 1000 * (cell >> 2 & 1), 1000 * (cell >> 3));
        }
        ends.look("cells at 0 and 1000");
        ends.set("relax(100)");
        ends.look("after 100 sweeps");
    }

    private static void numberOfSavedStates() {
        DigestTest test = new DigestTest();
        for (int calls = 0; calls <= 6; calls++) {
            test.look(calls + " calls that change nothing");
            test.set("relax(0)");
        }
        for (int left = 3; left >= 0; left--) {
            test.asked.make("undo()");
            test.saved = left;
            test.look(left + " saved states are left");
        }
        test.asked.answer("undo()");
        test.look("a refused undo");
    }

    /** "the determinant; if the grid is not loose, for each cell the numerator and the denominator of its head" */
    private static void looseGrids() {
        DigestTest test = mixed();
        test.link(5, 0);
        test.link(6, 0);
        test.link(17, 0);
        test.look("three of four links of the middle are closed");
        test.link(18, 0);
        test.loose = true;
        test.look("loose");
        test.set("relax(1)");
        test.look("loose, after a sweep");
        test.link(18, 2);
        test.loose = false;
        test.look("not loose any more");
        DigestTest bare = new DigestTest();
        bare.loose = true;
        for (int link = 0; link < 24; link++) {
            bare.link(link, 0);
        }
        bare.look("no links");
    }

    private static void signsOfHeads() {
        DigestTest test = new DigestTest();
        for (int point = 0; point < 12; point++) {
            test.edge(point, 0);
        }
        test.look("heads of 0 / 1");
        test.cell(4, 0, 1, 0, 0);
        test.look("numerators below 0");
        test.set("relax(2)");
        test.look("relaxed heads below 0");
    }

    /** Heads that decay come to subnormal numbers, and from below to -0.0, whose bits are not those of 0.0. */
    private static void smallHeads() {
        for (int rate = 0; rate <= 1; rate++) {
            DigestTest test = new DigestTest();
            for (int point = 0; point < 12; point++) {
                test.edge(point, 0);
            }
            test.cell(4, 1 - rate, rate, 0, 0);
            test.set("relax(1)");
            test.cell(4, 0, 0, 0, 0);
            for (int i = 0; i < 10; i++) {
                test.set("relax(100)");
            }
            test.set("relax(65)");
            boolean minusZero = false;
            for (int i = 0; i < 12; i++) {
                test.look("relaxed heads near 0");
                minusZero |= test.asked.answer("relaxed(8)").equals("-0.0");
                test.set("relax(1)");
            }
            CHECK.due("24 this test comes to -0.0 from below", minusZero, rate == 1);
        }
    }

    private static void sameStateSameHash() {
        CHECK.run("24 digest changes nothing", "setRate(0, 1); digest(); setRate(0, 2) = 1; undo() = 1; undo() = 0;",
                "undo()" + Scripts.STATE);
        DigestTest one = mixed();
        DigestTest other = mixed();
        CHECK.due("24 the same state, the same hash", one.asked.answer("digest()"), other.asked.answer("digest()"));
        CHECK.due("24 the same again", one.asked.answer("digest()"), one.asked.answer("digest()"));
    }
}
