/** The five examples of the document's description. */
public final class ExamplesTest {
    private static final Check CHECK = new Check();

    public static void main(String[] args) {
        edgePoint();
        wellInTheMiddle();
        greatestRates();
        cutOff();
        relaxation();
        CHECK.finish();
    }

    private static void edgePoint() {
        HeadGrid g = new HeadGrid();
        CHECK.call("1 setEdge(0, 200)", () -> g.setEdge(0, 200), 100);
        CHECK.call("1 head(0, 0)", () -> g.head(0, 0), 7275);
        CHECK.call("1 head(0, 1)", () -> g.head(0, 1), 56);
        CHECK.call("1 flow(12, 0)", () -> g.flow(12, 0), 3925);
        CHECK.call("1 flow(12, 1)", () -> g.flow(12, 1), 56);
        CHECK.call("1 determinant()", () -> g.determinant(), 100352);
        CHECK.call("1 extreme(true)", () -> g.extreme(true), 0);
    }

    private static void wellInTheMiddle() {
        HeadGrid g = new HeadGrid();
        CHECK.call("2 setRate(4, 60)", () -> g.setRate(4, 60), 0);
        CHECK.call("2 head(4, 0)", () -> g.head(4, 0), 155);
        CHECK.call("2 drawdown(4, 0)", () -> g.drawdown(4, 0), 45);
        CHECK.call("2 drawdown(4, 1)", () -> g.drawdown(4, 1), 2);
        CHECK.call("2 influence(0, 4, 0)", () -> g.influence(0, 4, 0), 1);
        CHECK.call("2 influence(0, 4, 1)", () -> g.influence(0, 4, 1), 16);
        CHECK.call("2 inflow(0, 0)", () -> g.inflow(0, 0), 15);
    }

    private static void greatestRates() {
        HeadGrid g = new HeadGrid();
        CHECK.call("3 setLevels(4, 90, 60)", () -> g.setLevels(4, 90, 60), 0);
        CHECK.call("3 greatestRate(4)", () -> g.greatestRate(4), 106);
        CHECK.call("3 greatestEqual(17)", () -> g.greatestEqual(17), 91);
        CHECK.call("3 bestPair(0, 4)", () -> g.bestPair(0, 4), 3220053);
        CHECK.call("3 dry()", () -> g.dry(), 0);
    }

    private static void cutOff() {
        HeadGrid g = new HeadGrid();
        CHECK.call("4 setLink(5, 0)", () -> g.setLink(5, 0), 1);
        CHECK.call("4 setLink(6, 0)", () -> g.setLink(6, 0), 1);
        CHECK.call("4 setLink(17, 0)", () -> g.setLink(17, 0), 1);
        CHECK.call("4 isLoose()", () -> g.isLoose(), false);
        CHECK.call("4 setLink(18, 0)", () -> g.setLink(18, 0), 1);
        CHECK.call("4 isLoose() again", () -> g.isLoose(), true);
        CHECK.call("4 determinant()", () -> g.determinant(), 0);
        CHECK.arithmetic("4 head(0, 0)", () -> g.head(0, 0));
    }

    private static void relaxation() {
        HeadGrid g = new HeadGrid();
        CHECK.call("5 relax(1)", () -> g.relax(1), 72.265625);
        CHECK.call("5 relaxed(0)", () -> g.relaxed(0), 50.0);
        CHECK.call("5 relaxed(4)", () -> g.relaxed(4), 18.75);
        CHECK.call("5 error()", () -> g.error(), 81.25);
        CHECK.index("5 setLink(24, 0)", () -> g.setLink(24, 0));
    }
}
