import java.math.BigInteger;

/** The boundaries of the exact values: promises 8 to 16, and what the description says of fractions. */
public final class ExactTest {
    private static final Check CHECK = new Check();

    /** Calls of everything that answers a fraction, "%s" standing for the part. */
    private static final String[] FRACTIONS = fractions();

    public static void main(String[] args) {
        zeroIsZeroOverOne();
        wholeNumbers();
        negativeFractions();
        lowestTerms();
        endsOfLinks();
        flows();
        inflows();
        influences();
        drawdowns();
        determinants();
        extremes();
        dryCells();
        allowedRates();
        greatestAndLowestHeads();
        everyAnswerAtTheEnds();
        CHECK.finish();
    }

    // "Fractions are told in lowest terms with a denominator above 0; the fraction 0 is 0 / 1."

    private static void zeroIsZeroOverOne() {
        CHECK.run("8 a head of 0 is 0 / 1", Scripts.edges(0), Check.each("head(#, 0) = 0; head(#, 1) = 1", 9));
        CHECK.run("8 0 between others that are not", Scripts.edges(0),
                "setRate(4, 16); setRecharge(4, 16); setRate(0, 0);", "head(4, 0) = 0; head(4, 1) = 1");
        CHECK.run("8 0 from two sides", Scripts.COMB, Scripts.edges(7),
                "setRate(0, 7); head(0, 0) = 0; head(0, 1) = 1");
        CHECK.run("9 a flow of 0 is 0 / 1", Check.each("flow(#, 0) = 0; flow(#, 1) = 1", 24));
        CHECK.run("9 the flow of a closed link is 0 / 1",
                "setEdge(0, 999); setLink(12, 0); flow(12, 0) = 0; flow(12, 1) = 1");
        CHECK.run("10 an inflow of 0 is 0 / 1", Check.each("inflow(#, 0) = 0; inflow(#, 1) = 1", 4));
        CHECK.run("10 what enters and leaves on one side is 0 / 1", Scripts.COMB, "setRate(6, 9); setRecharge(8, 9);",
                "inflow(0, 0) = 0; inflow(0, 1) = 1");
        CHECK.run("11 no influence is 0 / 1", Scripts.COMB,
                "setLink(12, 2); influence(0, 8, 0) = 0; influence(0, 8, 1) = 1");
        CHECK.run("12 no drawdown is 0 / 1", "setRecharge(4, 7);",
                Check.each("drawdown(#, 0) = 0; drawdown(#, 1) = 1", 9));
        CHECK.run("12 no drawdown beside another column's", Scripts.COMB,
                "setLink(12, 2); setRate(0, 5); setRate(1, 5);",
                "drawdown(2, 0) = 0; drawdown(2, 1) = 1; drawdown(0, 0) = 5; drawdown(0, 1) = 2");
    }

    private static void wholeNumbers() {
        CHECK.run("8 a whole head has the denominator 1", "setRate(4, 16); head(4, 0) = 94; head(4, 1) = 1");
        CHECK.run("9 a whole flow has the denominator 1", "setRate(4, 16); flow(5, 0) = 4; flow(5, 1) = 1");
        CHECK.run("10 a whole inflow has the denominator 1", "setRate(4, 16); inflow(2, 0) = 4; inflow(2, 1) = 1");
        CHECK.run("11 a whole influence has the denominator 1", Scripts.COMB,
                "influence(6, 3, 0) = 2; influence(6, 3, 1) = 1");
        CHECK.run("12 a whole drawdown has the denominator 1",
                "setRate(4, 16); drawdown(1, 0) = 2; drawdown(1, 1) = 1");
    }

    private static void negativeFractions() {
        CHECK.run("8 the sign is the numerator's", Scripts.edges(0), "setRate(4, 1); head(4, 0) = -3; head(4, 1) = 8");
        CHECK.run("9 the sign is the numerator's",
                "setRate(4, 1); flow(6, 0) = -1; flow(6, 1) = 4; flow(5, 0) = 1; flow(5, 1) = 4");
        CHECK.run("10 negative if water leaves the grid", "setRecharge(4, 1);",
                Check.each("inflow(#, 0) = -1; inflow(#, 1) = 4", 4));
        CHECK.run("10 above 0 if water enters the grid", "setRate(4, 1);",
                Check.each("inflow(#, 0) = 1; inflow(#, 1) = 4", 4));
    }

    private static String[] fractions() {
        StringBuilder calls = new StringBuilder();
        calls.append(Check.each("head(#, %s)", 9)).append(Check.each("flow(#, %s)", 24));
        calls.append(Check.each("inflow(#, %s)", 4)).append(Check.each("drawdown(#, %s)", 9));
        for (int i = 0; i < 9; i++) {
            calls.append(Check.each("influence(" + i + ", #, %s)", 9));
        }
        return calls.toString().split(";");
    }

    private static void lowestTerms() {
        String[] settings = {"relax(0)", "setEdge(0, 200)", "setRate(4, 60)",
            "setLink(0, 2); setLink(6, 0); setRate(8, 77)",
            "setLink(12, 0); setLink(17, 2); setEdge(11, 3); setRate(0, 5); setRecharge(7, 12)"};
        for (String setting : settings) {
            Asked asked = Asked.grid().make(setting);
            for (String fraction : FRACTIONS) {
                BigInteger numerator = new BigInteger(asked.answer(fraction.replace("%s", "0")));
                BigInteger denominator = new BigInteger(asked.answer(fraction.replace("%s", "1")));
                CHECK.due("denominator above 0: " + setting + ": " + fraction, denominator.signum(), 1);
                CHECK.due("lowest terms: " + setting + ": " + fraction, numerator.gcd(denominator), BigInteger.ONE);
            }
        }
    }

    // The ends of the links, and promise 9

    private static String headAt(Asked asked, int row, int column) {
        if (row >= 0 && row < 3 && column >= 0 && column < 3) {
            String call = "head(" + (3 * row + column) + ", ";
            return asked.answer(call + "0)") + "/" + asked.answer(call + "1)");
        }
        int point = row < 0 ? column : column > 2 ? 3 + row : row > 2 ? 6 + column : 9 + row;
        return EDGE_HEADS[point] + "/1";
    }

    private static final int[] EDGE_HEADS = {0, 1000, 17, 23, 999, 1, 500, 42, 640, 77, 311, 808};

    /** "The flow of a link is its conductance times (the head of its first end minus the head of its second end)." */
    private static void endsOfLinks() {
        Asked asked = Asked.grid();
        for (int point = 0; point < 12; point++) {
            asked.make("setEdge(" + point + ", " + EDGE_HEADS[point] + ")");
        }
        int[] conductances = new int[24];
        for (int link = 0; link < 24; link++) {
            conductances[link] = link % 7 == 3 ? 0 : 1 + link % 2;
            asked.make("setLink(" + link + ", " + conductances[link] + ")");
        }
        for (int line = 0; line < 3; line++) {
            for (int k = 0; k < 4; k++) {
                int across = 4 * line + k;
                int down = 12 + 4 * line + k;
                flowIs(asked, across, conductances[across], headAt(asked, line, k - 1), headAt(asked, line, k));
                flowIs(asked, down, conductances[down], headAt(asked, k - 1, line), headAt(asked, k, line));
            }
        }
    }

    private static void flowIs(Asked asked, int link, int conductance, String first, String second) {
        BigInteger[] a = {new BigInteger(first.split("/")[0]), new BigInteger(first.split("/")[1])};
        BigInteger[] b = {new BigInteger(second.split("/")[0]), new BigInteger(second.split("/")[1])};
        BigInteger fall = a[0].multiply(b[1]).subtract(b[0].multiply(a[1])).multiply(BigInteger.valueOf(conductance));
        BigInteger below = a[1].multiply(b[1]);
        BigInteger common = fall.gcd(below);
        String name = "9 flow of link " + link + ", part ";
        CHECK.due(name + 0, asked.answer("flow(" + link + ", 0)"), fall.divide(common).toString());
        CHECK.due(name + 1, asked.answer("flow(" + link + ", 1)"), below.divide(common).toString());
    }

    private static void flows() {
        CHECK.run("9 conductance 0 lets nothing flow", Scripts.COMB, "setEdge(9, 1000); flow(0, 0) = 0");
        CHECK.run("9 conductance 1", Scripts.COMB,
                "setRate(6, 10); flow(14, 0) = 10; head(3, 0) = 80; head(6, 0) = 70");
        CHECK.run("9 conductance 2 halves the fall", Scripts.COMB,
                "setLink(14, 2); setRate(6, 10); flow(14, 0) = 10; head(3, 0) = 80; head(6, 0) = 75");
        CHECK.run("9 from the second end to the first: negative", Scripts.COMB,
                "setRecharge(6, 10); flow(14, 0) = -10; flow(12, 0) = -10");
        CHECK.run("9 no flow beyond the last well", Scripts.COMB,
                "setRate(3, 10); flow(13, 0) = 10; flow(14, 0) = 0; flow(14, 1) = 1");
    }

    private static void inflows() {
        for (int side = 0; side < 4; side++) {
            int[] wells = {0, 2, 8, 6};
            StringBuilder rows = new StringBuilder();
            for (int other = 0; other < 4; other++) {
                int enters = other == side ? 1000 : 0;
                rows.append("inflow(" + other + ", 0) = " + enters + "; inflow(" + other + ", 1) = 1;");
            }
            CHECK.run("10 only side " + side, Scripts.WINDMILL, "setRate(" + wells[side] + ", 1000);", rows.toString());
        }
        CHECK.run("10 all three points of a side count", Scripts.COMB,
                "setRate(0, 1); setRate(4, 10); setRate(8, 100); inflow(0, 0) = 111");
        CHECK.run("10 a side without open links", Scripts.COMB,
                "setRate(0, 1); inflow(1, 0) = 0; inflow(2, 0) = 0; inflow(3, 0) = 0");
        CHECK.run("10 a side can have both directions", Scripts.COMB, "setRate(0, 10); setRecharge(1, 4);",
                "flow(12, 0) = 10; flow(16, 0) = -4; flow(20, 0) = 0; inflow(0, 0) = 6; inflow(0, 1) = 1");
    }

    // Promises 11 and 12

    private static void influences() {
        CHECK.run("11 the fall if the rate rises from 0 to 1", Scripts.COMB,
                "head(8, 0) = 100; setRate(5, 1) = 0; head(8, 0) = 98; influence(8, 5, 0) = 2");
        CHECK.run("11 the fall if the rate rises from 999 to 1000", Scripts.COMB,
                "setRate(5, 999) = 0; head(8, 0) = -1898; influence(8, 5, 0) = 2; setRate(5, 1000) = 999;",
                "head(8, 0) = -1900; influence(8, 5, 0) = 2");
        CHECK.run("11 i is the cell whose head falls",
                "setLink(1, 0); setLink(13, 0); setLink(12, 0); influence(0, 8, 0) = 0");
        CHECK.run("11 not of recharge, levels or edges",
                "influence(4, 4, 1) = 8; setRecharge(4, 1000); setLevels(4, 1000, 1000);", Scripts.edges(0),
                "influence(4, 4, 0) = 3; influence(4, 4, 1) = 8");
        CHECK.run("11 the greatest of all", Scripts.CHAIN,
                "influence(8, 8, 0) = 9; influence(8, 8, 1) = 1; influence(0, 8, 0) = 1; influence(8, 0, 0) = 1;",
                "influence(7, 4, 0) = 5");
    }

    private static void drawdowns() {
        CHECK.run("12 all rates count", Scripts.CHAIN, Check.each("setRate(#, 1)", 9),
                "drawdown(0, 0) = 9; drawdown(8, 0) = 45");
        CHECK.run("12 the greatest of all", Scripts.CHAIN, Check.each("setRate(#, 1000)", 9),
                "drawdown(8, 0) = 45000; drawdown(8, 1) = 1; head(8, 0) = -44900");
        CHECK.run("12 recharge does not count", Scripts.COMB,
                "setRecharge(6, 1000); drawdown(6, 0) = 0; setRate(6, 1000); drawdown(6, 0) = 3000;",
                "head(6, 0) = 100");
        CHECK.run("12 the rates are as before", Scripts.COMB,
                "setRate(6, 5); drawdown(6, 0) = 15; setRate(6, 5) = 5; head(6, 0) = 85");
    }

    // Promises 13 and 14

    private static void determinants() {
        CHECK.run("13 0 if the grid is loose", Scripts.LOOSE, "determinant() = 0");
        CHECK.run("13 the least of a grid that is not loose", Scripts.CHAIN, "determinant() = 1");
        CHECK.run("13 the comb", Scripts.COMB,
                "determinant() = 1; setLink(12, 2); determinant() = 2; setLink(22, 2); determinant() = 4");
        CHECK.run("13 the greatest", Check.each("setLink(#, 2)", 24), "determinant() = 51380224");
        CHECK.run("13 not of heads and rates", Scripts.edges(1000),
                "setRate(4, 1000); setRecharge(3, 1000); determinant() = 100352");
    }

    private static void extremes() {
        CHECK.run("14 all equal: the lowest number", "extreme(true) = 0; extreme(false) = 0");
        CHECK.run("14 columns 1 and 2 are equal and highest", Scripts.COMB,
                "setEdge(0, 5); extreme(true) = 1; extreme(false) = 0");
        CHECK.run("14 columns 1 and 2 are equal and lowest", Scripts.COMB,
                "setEdge(0, 500); extreme(false) = 1; extreme(true) = 0");
        CHECK.run("14 columns 0 and 2 are equal and highest", Scripts.COMB,
                "setEdge(1, 5); extreme(true) = 0; extreme(false) = 1");
        CHECK.run("14 columns 0 and 2 are equal and lowest", Scripts.COMB,
                "setEdge(1, 500); extreme(false) = 0; extreme(true) = 1");
        CHECK.run("14 column 2 alone", Scripts.COMB,
                "setEdge(2, 500); extreme(true) = 2; setEdge(2, 5); extreme(false) = 2");
        CHECK.run("14 the last cell alone", Scripts.COMB,
                "setRecharge(8, 1); extreme(true) = 8; extreme(false) = 0; setRate(8, 2); extreme(false) = 8;",
                "extreme(true) = 0");
        CHECK.run("14 two cells that are equal and highest", Scripts.COMB,
                "setRecharge(8, 1); setRecharge(7, 1); extreme(true) = 7");
        CHECK.run("14 two cells that are equal and lowest", Scripts.COMB,
                "setRate(6, 1); setRate(8, 1); extreme(false) = 6");
        CHECK.run("14 cells of one column that are equal", Scripts.COMB,
                "setRecharge(5, 1); extreme(true) = 5; setRate(3, 1); extreme(false) = 3");
        CHECK.run("14 heads below 0", Scripts.COMB, Scripts.edges(0),
                "setRate(0, 3); setRate(1, 2); setRate(2, 3); extreme(true) = 1; extreme(false) = 0");
        CHECK.run("14 a small difference",
                "setRecharge(8, 1); setRecharge(6, 1); setRecharge(2, 1); setRecharge(0, 1); extreme(true) = 0;",
                "setEdge(11, 101); extreme(true) = 6; extreme(false) = 1");
    }

    // Promises 15 and 16: "less than its floor", "at least its limit"

    private static void dryCells() {
        CHECK.run("15 at the floor", Scripts.COMB, "setLevels(0, 100, 0); dry() = 0");
        CHECK.run("15 1 below the floor", Scripts.COMB, "setLevels(0, 101, 0); dry() = 1");
        CHECK.run("15 1 above the floor", Scripts.COMB, "setLevels(0, 99, 0); dry() = 0");
        CHECK.run("15 half below the floor", Scripts.COMB,
                "setLink(12, 2); setRate(0, 1); setLevels(0, 100, 0); dry() = 1");
        CHECK.run("15 half above the floor", Scripts.COMB,
                "setLink(12, 2); setRate(0, 1); setLevels(0, 99, 0); dry() = 0");
        CHECK.run("15 a floor of 0 and a head of 0", Scripts.COMB, "setEdge(0, 0); dry() = 0");
        CHECK.run("15 a floor of 0 and a head below 0", Scripts.COMB, "setEdge(0, 0); setRate(6, 1); dry() = 73");
        CHECK.run("15 a floor of 1000 and a head of 1000", Scripts.COMB,
                "setEdge(2, 1000); setLevels(2, 1000, 0); dry() = 0; setEdge(2, 999); dry() = 4");
        CHECK.run("15 no cell", "dry() = 0");
        CHECK.run("15 all cells", Check.each("setLevels(#, 101, 0)", 9), "dry() = 511");
        for (int cell = 0; cell < 9; cell++) {
            CHECK.run("15 only cell " + cell, "setLevels(" + cell + ", 101, 0); dry() = " + (1 << cell));
        }
        CHECK.run("15 limits do not count", Check.each("setLevels(#, 0, 1000)", 9), "dry() = 0");
    }

    private static void allowedRates() {
        CHECK.run("16 at the limit", Scripts.COMB, "setLevels(0, 0, 100); isAllowed() = true");
        CHECK.run("16 1 below the limit", Scripts.COMB, "setLevels(0, 0, 101); isAllowed() = false");
        CHECK.run("16 1 above the limit", Scripts.COMB, "setLevels(0, 0, 99); isAllowed() = true");
        CHECK.run("16 half below the limit", Scripts.COMB,
                "setLink(12, 2); setRate(0, 1); setLevels(0, 0, 100); isAllowed() = false");
        CHECK.run("16 half above the limit", Scripts.COMB,
                "setLink(12, 2); setRate(0, 1); setLevels(0, 0, 99); isAllowed() = true");
        CHECK.run("16 a limit of 0 and a head of 0", Scripts.COMB,
                "setEdge(0, 0); isAllowed() = true; setRate(0, 1); isAllowed() = false");
        CHECK.run("16 a limit of 1000 and a head of 1000", Scripts.COMB,
                "setEdge(2, 1000); setLevels(2, 0, 1000); isAllowed() = true; setEdge(2, 999); isAllowed() = false");
        for (int cell = 0; cell < 9; cell++) {
            CHECK.run("16 each cell counts, " + cell,
                    "setLevels(" + cell + ", 0, 101); isAllowed() = false;",
                    "setLevels(" + cell + ", 0, 100); isAllowed() = true");
        }
        CHECK.run("16 all cells at their limits", Check.each("setLevels(#, 0, 100)", 9), "isAllowed() = true");
        CHECK.run("16 floors do not count", Check.each("setLevels(#, 1000, 0)", 9), "isAllowed() = true");
    }

    // Promise 8, the ends of what heads can be

    private static void greatestAndLowestHeads() {
        CHECK.run("8 the greatest head", Scripts.CHAIN, "setEdge(9, 1000);", Check.each("setRecharge(#, 1000)", 9),
                "head(8, 0) = 46000; head(8, 1) = 1; head(0, 0) = 10000");
        CHECK.run("8 the lowest head", Scripts.CHAIN, "setEdge(9, 0);", Check.each("setRate(#, 1000)", 9),
                "head(8, 0) = -45000; head(0, 0) = -9000");
        CHECK.run("8 all edge points at 0", Scripts.edges(0), "head(4, 0) = 0; extreme(true) = 0");
        CHECK.run("8 all edge points at 1000", Scripts.edges(1000), Check.each("head(#, 0) = 1000; head(#, 1) = 1", 9));
        CHECK.run("8 recharge and rate at 1000 are as none",
                "setRecharge(4, 1000); setRate(4, 1000); head(4, 0) = 100; head(4, 1) = 1");
    }

    /** Every fraction of grids whose values all lie at the ends of their ranges. */
    private static void everyAnswerAtTheEnds() {
        String[] settings = {
            Scripts.edges(0) + Check.each("setRate(#, 1000)", 9),
            Scripts.edges(1000) + Check.each("setRecharge(#, 1000)", 9) + Check.each("setLink(#, 2)", 24),
            "setEdge(0, 1000); setEdge(4, 0); setEdge(8, 1000); setRate(0, 1000); setRecharge(8, 1000); setLink(5, 2);"
                + "setLink(6, 0); setLink(17, 2); setLink(18, 0); setLink(1, 2); setLink(22, 2); setLink(9, 0);"
                + "setLink(0, 2)",
        };
        for (String setting : settings) {
            Asked asked = Asked.grid().make(setting);
            Asked reference = Asked.reference().make(setting);
            for (String fraction : FRACTIONS) {
                for (String part : new String[] {"0", "1"}) {
                    String call = fraction.replace("%s", part);
                    CHECK.due("at the ends: " + call, asked.answer(call), reference.answer(call));
                }
            }
        }
    }
}
