import java.util.Arrays;

/** The boundaries of promises 20 to 22, and what the description says of relaxation. */
public final class RelaxTest {
    private static final Check CHECK = new Check();

    public static void main(String[] args) {
        noSweep();
        lastSweep();
        absoluteChange();
        hundredSweeps();
        cellsInOrder();
        sidesInOrder();
        cellsWithoutLinks();
        settingsDoNotMoveRelaxedHeads();
        looseGroups();
        errors();
        CHECK.finish();
    }

    // "0.0 if no sweep was made"

    private static void noSweep() {
        CHECK.run("20 no sweep: 0.0", "relax(0) = 0.0;", Check.each("relaxed(#) = 0.0", 9));
        CHECK.run("20 no sweep after others: 0.0",
                "relax(1) = 72.265625; relax(0) = 0.0; relaxed(0) = 50.0; relaxed(4) = 18.75");
        CHECK.run("20 no sweep on a loose grid: 0.0", Scripts.LOOSE, "relax(0) = 0.0");
        CHECK.run("20 a sweep that changes nothing: 0.0", Scripts.edges(0), "relax(1) = 0.0; relax(100) = 0.0;",
                Check.each("relaxed(#) = 0.0", 9));
    }

    // "the greatest absolute change of a relaxed head in the last sweep"

    private static void lastSweep() {
        CHECK.run("20 one sweep", Scripts.COMB,
                "relax(1) = 50.0; relaxed(0) = 50.0; relaxed(3) = 25.0; relaxed(6) = 25.0");
        CHECK.run("20 the second sweep alone", Scripts.COMB,
                "relax(1) = 50.0; relax(1) = 18.75; relaxed(0) = 62.5; relaxed(3) = 43.75; relaxed(6) = 43.75");
        CHECK.run("20 two sweeps: the change of the second", Scripts.COMB,
                "relax(2) = 18.75; relaxed(0) = 62.5; relaxed(3) = 43.75; relaxed(6) = 43.75");
        CHECK.run("20 the first cell changes most", Scripts.COMB, Scripts.edges(0),
                "setRecharge(0, 8); relax(1) = 4.0; relaxed(6) = 2.0");
        CHECK.run("20 the last cell changes most", Scripts.COMB, Scripts.edges(0),
                "setRecharge(8, 8); relax(1) = 8.0; relaxed(8) = 8.0; relaxed(5) = 0.0");
        CHECK.run("20 the middle cell changes most", Scripts.COMB, Scripts.edges(0),
                "setRecharge(4, 8); relax(1) = 4.0; relaxed(4) = 4.0; relaxed(1) = 0.0; relaxed(7) = 4.0");
    }

    private static void absoluteChange() {
        CHECK.run("20 a fall counts as a rise does", Scripts.COMB, Scripts.edges(0),
                "setRate(8, 8); relax(1) = 8.0; relaxed(8) = -8.0");
        CHECK.run("20 a fall that is greater than a rise", Scripts.COMB, Scripts.edges(0),
                "setRate(8, 8); setRecharge(6, 7); relax(1) = 8.0; relaxed(6) = 7.0");
        CHECK.run("20 a rise that is greater than a fall", Scripts.COMB, Scripts.edges(0),
                "setRate(6, 7); setRecharge(8, 8); relax(1) = 8.0; relaxed(6) = -7.0");
    }

    private static void hundredSweeps() {
        Asked once = Asked.grid().make("setEdge(0, 0); setRate(4, 77)");
        Asked often = Asked.grid().make("setEdge(0, 0); setRate(4, 77)");
        String last = "";
        for (int i = 0; i < 100; i++) {
            last = once.answer("relax(1)");
        }
        CHECK.due("20 100 sweeps are 100 times one", often.answer("relax(100)"), last);
        for (int cell = 0; cell < 9; cell++) {
            String call = "relaxed(" + cell + ")";
            CHECK.due("21 after 100 sweeps: " + call, often.answer(call), once.answer(call));
        }
        CHECK.due("23 100 sweeps are one saved state", often.answer("undo()") + often.answer("undo()"), "21");
    }

    /** "One sweep goes through the cells 0 to 8 in order and replaces the relaxed head of each cell". */
    private static void cellsInOrder() {
        CHECK.run("20 later cells see the new heads of earlier ones", "relax(1);",
                "relaxed(0) = 50.0; relaxed(1) = 37.5; relaxed(2) = 59.375;",
                "relaxed(3) = 37.5; relaxed(4) = 18.75; relaxed(5) = 44.53125; relaxed(6) = 59.375;",
                "relaxed(7) = 44.53125; relaxed(8) = 72.265625");
        CHECK.run("20 earlier cells see the old heads of later ones", Scripts.COMB, Scripts.edges(0),
                "setRecharge(6, 8);",
                "relax(1) = 8.0; relaxed(0) = 0.0; relaxed(3) = 0.0; relaxed(6) = 8.0; relax(1) = 4.0;",
                "relaxed(0) = 0.0; relaxed(3) = 4.0; relaxed(6) = 12.0");
        CHECK.run("20 recharge minus rate", Scripts.COMB, Scripts.edges(0),
                "setRecharge(6, 1000); setRate(6, 999); relax(1) = 1.0; relaxed(6) = 1.0");
        CHECK.run("20 conductances weigh", Scripts.COMB,
                "setLink(12, 2); setEdge(0, 90); relax(1); relaxed(0) = 60.0; relaxed(3) = 30.0");
    }

    private static final int[] EDGES = {0, 1000, 17, 23, 999, 1, 500, 42, 640, 77, 311, 808};

    /** The links of a cell in the order north, east, south, west. */
    private static int linkOf(int cell, int side) {
        int row = cell / 3;
        int column = cell % 3;
        int[] links = {12 + 4 * column + row, 4 * row + column + 1, 12 + 4 * column + row + 1, 4 * row + column};
        return links[side];
    }

    private static double headBeside(double[] heads, int cell, int side) {
        int row = cell / 3 + (side == 0 ? -1 : side == 2 ? 1 : 0);
        int column = cell % 3 + (side == 3 ? -1 : side == 1 ? 1 : 0);
        if (row >= 0 && row < 3 && column >= 0 && column < 3) {
            return heads[3 * row + column];
        }
        return EDGES[row < 0 ? column : column > 2 ? 3 + row : row > 2 ? 6 + column : 9 + row];
    }

    private static int conductanceOf(int link) {
        return link % 5 == 3 ? 2 : 1;
    }

    /** One sweep, with the sides of a cell, and R for recharge minus rate, in any order. */
    private static void sweepInOrder(double[] heads, String order) {
        for (int cell = 0; cell < 9; cell++) {
            double s = 0.0;
            int c = 0;
            for (char part : order.toCharArray()) {
                int side = "NESW".indexOf(part);
                if (side < 0) {
                    s = s + (13 * cell - 7);
                } else {
                    s = s + conductanceOf(linkOf(cell, side)) * headBeside(heads, cell, side);
                    c += conductanceOf(linkOf(cell, side));
                }
            }
            heads[cell] = s / c;
        }
    }

    private static final int SWEEPS = 30;
    private static final String ORDER = "NESWR";
    private static final String[] OTHER_ORDERS = {
        "NEWSR", "NSEWR", "NSWER", "NWESR", "NWSER", "ESNWR", "ESWNR", "EWNSR", "EWSNR", "SWNER", "SWENR", "RNESW"};

    /** Sums of doubles depend on their order: every other order shows in a bit here (but for the first two sides). */
    private static void sidesInOrder() {
        Asked asked = Asked.grid();
        for (int point = 0; point < 12; point++) {
            asked.make("setEdge(" + point + ", " + EDGES[point] + ")");
        }
        for (int link = 0; link < 24; link++) {
            asked.make("setLink(" + link + ", " + conductanceOf(link) + ")");
        }
        for (int cell = 0; cell < 9; cell++) {
            asked.make("setRate(" + cell + ", 7); setRecharge(" + cell + ", " + 13 * cell + ")");
        }
        double[] want = new double[9];
        boolean[] apart = new boolean[OTHER_ORDERS.length];
        for (int n = 0; n < SWEEPS; n++) {
            for (int i = 0; i < OTHER_ORDERS.length; i++) {
                double[] other = want.clone();
                sweepInOrder(other, OTHER_ORDERS[i]);
                double[] next = want.clone();
                sweepInOrder(next, ORDER);
                apart[i] |= !Arrays.equals(other, next);
            }
            sweepInOrder(want, ORDER);
            asked.make("relax(1)");
            for (int cell = 0; cell < 9; cell++) {
                CHECK.due("20 north, east, south, west: sweep " + n, asked.answer("relaxed(" + cell + ")"),
                        Double.toString(want[cell]));
            }
        }
        for (int i = 0; i < OTHER_ORDERS.length; i++) {
            CHECK.due("20 this test tells the order " + OTHER_ORDERS[i] + " apart", apart[i], true);
        }
    }

    // "a cell whose c is 0 keeps its relaxed head"

    private static void cellsWithoutLinks() {
        for (int cell = 0; cell < 9; cell++) {
            StringBuilder cuts = new StringBuilder();
            for (int side = 0; side < 4; side++) {
                cuts.append("setLink(" + linkOf(cell, side) + ", 0);");
            }
            Asked asked = Asked.grid().make("relax(3)");
            String before = asked.answer("relaxed(" + cell + ")");
            asked.make(cuts.toString()).make("setRecharge(" + cell + ", 1000); relax(100)");
            CHECK.due("20 cell " + cell + " keeps its head", asked.answer("relaxed(" + cell + ")"), before);
            CHECK.run("20 cell " + cell + " keeps 0.0", cuts.toString(),
                    "setRate(" + cell + ", 1000); relax(100); relaxed(" + cell + ") = 0.0");
            CHECK.run("20 cell " + cell + " with one link left does not", cuts.toString(),
                    "setLink(" + linkOf(cell, cell % 4) + ", 1);", "relax(100); relaxed(" + cell + ") = 100.0");
        }
        CHECK.run("20 no cell has links: no change", Check.each("setLink(#, 0)", 24),
                Check.each("setRecharge(#, 1000)", 9), "relax(100) = 0.0;", Check.each("relaxed(#) = 0.0", 9));
    }

    private static void settingsDoNotMoveRelaxedHeads() {
        CHECK.run("21 only relax and undo move relaxed heads",
                "relax(1); setEdge(0, 0); setLink(12, 2); setRecharge(0, 9); setRate(0, 8);",
                "setLevels(0, 7, 6); head(0, 0); error(); digest(); relaxed(0) = 50.0; relaxed(8) = 72.265625");
    }

    /** Cells that hold together without an edge point drift by their recharge, and no end is set to that. */
    private static void looseGroups() {
        CHECK.run("20 a loose pair drifts", Scripts.COMB, Scripts.edges(0),
                "setLink(12, 0); setLink(14, 0); setRecharge(0, 1);",
                "isLoose() = true; relax(1) = 1.0; relaxed(0) = 1.0; relaxed(3) = 1.0; relax(100) = 1.0;",
                "relaxed(0) = 101.0; relaxed(3) = 101.0");
        CHECK.run("20 a loose pair drifts down", Scripts.COMB, "setLink(12, 0); setLink(14, 0); setRate(3, 1000);",
                "relax(100) = 1000.0; relaxed(0) = -99000.0; relaxed(3) = -100000.0; relaxed(6) = 0.0");
    }

    // Promise 22

    private static void errors() {
        CHECK.run("22 0.0 if the relaxed heads are exact", Scripts.edges(0), "error() = 0.0");
        CHECK.run("22 the numerator divided by the denominator", "setEdge(0, 200); error() = " + 7275.0 / 56.0);
        CHECK.run("22 an exact head below 0", Scripts.edges(0), "setRate(4, 1); error() = 0.375");
        CHECK.run("22 relaxed heads above the exact ones", Scripts.COMB, "relax(1);", Scripts.edges(0),
                "error() = 50.0");
        CHECK.run("22 relaxed heads below the exact ones", Scripts.COMB, "relax(1); error() = 75.0");
        CHECK.run("22 the first cell has the greatest", Scripts.COMB, Scripts.edges(0),
                "setRecharge(0, 8); setRate(3, 8); error() = 8.0; relax(1); error() = 6.0");
        CHECK.run("22 the last cell has the greatest", Scripts.COMB, Scripts.edges(0), "setRate(8, 8); error() = 24.0");
        CHECK.run("22 every cell counts", Scripts.COMB, Scripts.edges(0),
                "setRecharge(4, 5); error() = 10.0; setRecharge(1, 0); error() = 10.0");
        CHECK.run("22 error does not change relaxed heads",
                "relax(1); error() = 81.25; error() = 81.25; relaxed(4) = 18.75");
        CHECK.run("22 no error on a loose grid", Scripts.LOOSE, "error()" + Scripts.ARITHMETIC, "relax(1);",
                "error()" + Scripts.ARITHMETIC, "undo() = 3; undo() = 2; error() = 100.0");
    }
}
