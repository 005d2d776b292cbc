/**
 * "There is exactly one solution if each cell is connected with an edge point over links whose conductances are above
 * 0; otherwise the grid is loose."
 */
public final class LooseTest {
    private static final Check CHECK = new Check();
    private static final int[] EDGE_LINKS = {0, 3, 4, 7, 8, 11, 12, 15, 16, 19, 20, 23};
    private static final int[] CHAIN = {0, 1, 2, 21, 6, 5, 14, 9, 10};

    public static void main(String[] args) {
        CHECK.run("7 a new grid is not loose", "isLoose() = false; determinant() = 100352; head(4, 0) = 100");
        CHECK.run("7 without links all cells are loose", Check.each("setLink(#, 0)", 24),
                "isLoose() = true; determinant() = 0");
        oneEdgePointIsEnough();
        conductancesAboveZero();
        everyLinkOfAChainCounts();
        everySetOfCells();
        everyCellAlone();
        looseAndTightAgain();
        CHECK.finish();
    }

    private static String cut(int... links) {
        StringBuilder rows = new StringBuilder();
        for (int link : links) {
            rows.append("setLink(").append(link).append(", 0);");
        }
        return rows.toString();
    }

    private static void oneEdgePointIsEnough() {
        CHECK.run("7 no edge point is connected", cut(EDGE_LINKS), "isLoose() = true; determinant() = 0");
        for (int link : EDGE_LINKS) {
            CHECK.run("7 only the edge point at link " + link, cut(EDGE_LINKS), "setLink(" + link + ", 1) = 0;",
                    "isLoose() = false; head(4, 0) = 100; setLink(" + link + ", 0) = 1; isLoose() = true");
        }
    }

    private static void conductancesAboveZero() {
        for (int conductance = 1; conductance <= 2; conductance++) {
            CHECK.run("7 conductance " + conductance + " connects", Scripts.LOOSE,
                    "setLink(18, " + conductance + ") = 0; isLoose() = false; setLink(18, 0); isLoose() = true");
        }
    }

    /** The only way of the cells behind a link goes over it. */
    private static void everyLinkOfAChainCounts() {
        CHECK.run("7 a chain", Scripts.CHAIN, "isLoose() = false; determinant() = 1");
        for (int link : CHAIN) {
            CHECK.run("7 a chain without link " + link, Scripts.CHAIN, "setLink(" + link + ", 0) = 1;",
                    "isLoose() = true; determinant() = 0; setLink(" + link + ", 2) = 0;",
                    "isLoose() = false; determinant() = 2");
        }
    }

    private static boolean isIn(int set, int[] place) {
        boolean cell = place[0] >= 0 && place[0] < 3 && place[1] >= 0 && place[1] < 3;
        return cell && (set >> 3 * place[0] + place[1] & 1) != 0;
    }

    /** A place is row and column from -1 to 3. */
    private static int[][] endsOf(int link) {
        int line = link / 4 % 3;
        int k = link % 4;
        return link < 12 ? new int[][] {{line, k - 1}, {line, k}} : new int[][] {{k - 1, line}, {k, line}};
    }

    /** Every set of cells is cut off as a whole; then each of the cut links is opened alone. */
    private static void everySetOfCells() {
        for (int set = 1; set < 512; set++) {
            Asked grid = Asked.grid();
            Asked reference = Asked.reference();
            StringBuilder cuts = new StringBuilder();
            for (int link = 0; link < 24; link++) {
                int[][] ends = endsOf(link);
                if (isIn(set, ends[0]) != isIn(set, ends[1])) {
                    cuts.append(link).append(' ');
                    grid.make("setLink(" + link + ", 0)");
                    reference.make("setLink(" + link + ", 0)");
                }
            }
            CHECK.due("7 the cells " + set + " are cut off", grid.answer("isLoose()"), "true");
            CHECK.due("13 determinant without the cells " + set, grid.answer("determinant()"), "0");
            CHECK.due("8 no head without the cells " + set, grid.answer("head(0, 0)"), "throws ArithmeticException");
            for (String link : cuts.toString().trim().split(" ")) {
                String opened = "setLink(" + link + ", 2)";
                grid.make(opened);
                reference.make(opened);
                String want = reference.answer("isLoose()");
                CHECK.due("7 the cells " + set + ", link " + link + " is open", grid.answer("isLoose()"), want);
                CHECK.due("13 the cells " + set + ", link " + link + " is open", grid.answer("determinant()"),
                        reference.answer("determinant()"));
                grid.make("undo()");
                reference.make("undo()");
            }
        }
    }

    private static void everyCellAlone() {
        for (int cell = 0; cell < 9; cell++) {
            int row = cell / 3;
            int column = cell % 3;
            int[] links = {4 * row + column, 4 * row + column + 1, 12 + 4 * column + row, 12 + 4 * column + row + 1};
            String three = cut(links[0], links[1], links[2]);
            CHECK.run("7 cell " + cell + " has one link left", three, "isLoose() = false; head(" + cell + ", 0) = 100");
            CHECK.run("7 cell " + cell + " has no link left", three, cut(links[3]), "isLoose() = true;",
                    "head(" + cell + ", 0)" + Scripts.ARITHMETIC, "head(" + (8 - cell) + ", 1)" + Scripts.ARITHMETIC);
        }
    }

    private static void looseAndTightAgain() {
        CHECK.run("7 exact heads come back with the link", Scripts.LOOSE, "head(0, 0)" + Scripts.ARITHMETIC,
                "setLink(5, 1) = 0; head(0, 0) = 100;", "setLink(5, 0) = 1;", "head(0, 0)" + Scripts.ARITHMETIC);
        CHECK.run("23 exact heads come back with undo", Scripts.LOOSE, "head(4, 0)" + Scripts.ARITHMETIC,
                "undo() = 3; head(4, 0) = 100; determinant()", "setLink(18, 0) = 1;",
                "head(4, 0)" + Scripts.ARITHMETIC);
        CHECK.run("7 recharge and rate do not matter", Scripts.LOOSE,
                "setRecharge(4, 1000); setRate(4, 1000); isLoose() = true");
    }
}
