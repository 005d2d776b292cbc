/** Each promise by hand: ordinary inputs, the edges that the document names, and wrong inputs. */
public final class PromisesTest {
    private static final int LEAST = Integer.MIN_VALUE;
    private static final int MOST = Integer.MAX_VALUE;
    private static final Check CHECK = new Check();

    public static void main(String[] args) {
        newObject();
        setLink();
        setEdge();
        setRecharge();
        setRate();
        setLevels();
        isLoose();
        isLooseByGroups();
        head();
        headOfThinGrids();
        flow();
        inflow();
        influence();
        drawdown();
        determinant();
        extreme();
        dry();
        isAllowed();
        greatestRate();
        greatestEqual();
        bestPair();
        ratesOfThinGrids();
        relax();
        relaxLooseCells();
        relaxed();
        error();
        undo();
        undoRestoresEverything();
        digest();
        digestOfPowersOfTwo();
        digestOfSmallHeads();
        digestOfDriftingHeads();
        throwingChangesNothing();
        CHECK.finish();
    }

    private static HeadGrid loose() {
        HeadGrid g = new HeadGrid();
        g.setLink(5, 0);
        g.setLink(6, 0);
        g.setLink(17, 0);
        g.setLink(18, 0);
        return g;
    }

    // Promise 1

    private static void newObject() {
        HeadGrid g = new HeadGrid();
        for (int cell = 0; cell < 9; cell++) {
            int c = cell;
            CHECK.call("1 head", () -> g.head(c, 0), 100);
            CHECK.call("1 head's denominator", () -> g.head(c, 1), 1);
            CHECK.call("1 relaxed", () -> g.relaxed(c), 0.0);
        }
        CHECK.call("1 isAllowed", () -> g.isAllowed(), true);
        CHECK.call("1 dry", () -> g.dry(), 0);
        CHECK.call("1 digest", () -> g.digest(), new ReferenceGrid().digest());
        CHECK.call("1 undo", () -> g.undo(), "throws IllegalStateException");
        for (int link = 0; link < 24; link++) {
            int l = link;
            CHECK.call("1 conductance", () -> g.setLink(l, 2), 1);
        }
        for (int point = 0; point < 12; point++) {
            int p = point;
            CHECK.call("1 edge head", () -> g.setEdge(p, 7), 100);
        }
        for (int cell = 0; cell < 9; cell++) {
            int c = cell;
            CHECK.call("1 recharge", () -> g.setRecharge(c, 7), 0);
            CHECK.call("1 rate", () -> g.setRate(c, 7), 0);
            CHECK.call("1 limit", () -> g.setLevels(c, 7, 7), 0);
        }
    }

    // Promises 2 to 6

    private static void setLink() {
        HeadGrid g = new HeadGrid();
        for (int link = 0; link < 24; link++) {
            int l = link;
            CHECK.call("2 first", () -> g.setLink(l, 0), 1);
            CHECK.call("2 second", () -> g.setLink(l, 2), 0);
            CHECK.call("2 third", () -> g.setLink(l, 1), 2);
        }
        CHECK.index("2 setLink(-1, 1)", () -> g.setLink(-1, 1));
        CHECK.index("2 setLink(24, 1)", () -> g.setLink(24, 1));
        CHECK.index("2 setLink(24, 3)", () -> g.setLink(24, 3));
        CHECK.index("2 setLink(least, least)", () -> g.setLink(LEAST, LEAST));
        CHECK.argument("2 setLink(0, -1)", () -> g.setLink(0, -1));
        CHECK.argument("2 setLink(23, 3)", () -> g.setLink(23, 3));
        CHECK.argument("2 setLink(0, most)", () -> g.setLink(0, MOST));
        CHECK.call("2 undoable", () -> g.undo(), 3);
    }

    private static void setEdge() {
        HeadGrid g = new HeadGrid();
        CHECK.call("3 first", () -> g.setEdge(0, 0), 100);
        CHECK.call("3 second", () -> g.setEdge(0, 1000), 0);
        CHECK.call("3 third", () -> g.setEdge(11, 5), 100);
        CHECK.call("3 again", () -> g.setEdge(0, 1000), 1000);
        CHECK.index("3 setEdge(-1, 0)", () -> g.setEdge(-1, 0));
        CHECK.index("3 setEdge(12, 0)", () -> g.setEdge(12, 0));
        CHECK.index("3 setEdge(12, -1)", () -> g.setEdge(12, -1));
        CHECK.argument("3 setEdge(0, -1)", () -> g.setEdge(0, -1));
        CHECK.argument("3 setEdge(0, 1001)", () -> g.setEdge(0, 1001));
        CHECK.call("3 undoable", () -> g.undo(), 3);
        // Each point raises the cell that lies beside it, of two cells the nearer one.
        int[] cells = {0, 1, 2, 2, 5, 8, 6, 7, 8, 0, 3, 6};
        for (int point = 0; point < 12; point++) {
            HeadGrid one = new HeadGrid();
            one.setEdge(point, 900);
            CHECK.call("3 cell beside point " + point, () -> one.extreme(true), cells[point]);
        }
    }

    private static void setRecharge() {
        HeadGrid g = new HeadGrid();
        CHECK.call("4 first", () -> g.setRecharge(8, 1000), 0);
        CHECK.call("4 second", () -> g.setRecharge(8, 3), 1000);
        CHECK.call("4 third", () -> g.setRecharge(0, 0), 0);
        CHECK.index("4 setRecharge(-1, 0)", () -> g.setRecharge(-1, 0));
        CHECK.index("4 setRecharge(9, 0)", () -> g.setRecharge(9, 0));
        CHECK.index("4 setRecharge(9, 1001)", () -> g.setRecharge(9, 1001));
        CHECK.argument("4 setRecharge(0, -1)", () -> g.setRecharge(0, -1));
        CHECK.argument("4 setRecharge(8, 1001)", () -> g.setRecharge(8, 1001));
        CHECK.call("4 undoable", () -> g.undo(), 2);
        CHECK.call("4 undoable", () -> g.undo(), 1);
        CHECK.call("4 restored", () -> g.setRecharge(8, 4), 1000);
    }

    private static void setRate() {
        HeadGrid g = new HeadGrid();
        CHECK.call("5 first", () -> g.setRate(8, 1000), 0);
        CHECK.call("5 second", () -> g.setRate(8, 3), 1000);
        CHECK.call("5 recharge is another", () -> g.setRecharge(8, 9), 0);
        CHECK.call("5 third", () -> g.setRate(8, 0), 3);
        CHECK.index("5 setRate(-1, 0)", () -> g.setRate(-1, 0));
        CHECK.index("5 setRate(9, 0)", () -> g.setRate(9, 0));
        CHECK.index("5 setRate(9, -1)", () -> g.setRate(9, -1));
        CHECK.argument("5 setRate(0, -1)", () -> g.setRate(0, -1));
        CHECK.argument("5 setRate(8, 1001)", () -> g.setRate(8, 1001));
        CHECK.call("5 undoable", () -> g.undo(), 3);
        CHECK.call("5 restored", () -> g.setRate(8, 4), 3);
    }

    private static void setLevels() {
        HeadGrid g = new HeadGrid();
        CHECK.call("6 first", () -> g.setLevels(3, 10, 20), 0);
        CHECK.call("6 second", () -> g.setLevels(3, 1000, 0), 20);
        CHECK.call("6 third", () -> g.setLevels(3, 0, 1000), 0);
        CHECK.index("6 setLevels(-1, 0, 0)", () -> g.setLevels(-1, 0, 0));
        CHECK.index("6 setLevels(9, -1, 1001)", () -> g.setLevels(9, -1, 1001));
        CHECK.argument("6 setLevels(0, -1, 0)", () -> g.setLevels(0, -1, 0));
        CHECK.argument("6 setLevels(0, 1001, 0)", () -> g.setLevels(0, 1001, 0));
        CHECK.argument("6 setLevels(0, 0, -1)", () -> g.setLevels(0, 0, -1));
        CHECK.argument("6 setLevels(0, 0, 1001)", () -> g.setLevels(0, 0, 1001));
        CHECK.call("6 undoable", () -> g.undo(), 2);
        CHECK.call("6 restored", () -> g.dry(), 8);
        CHECK.call("6 restored limit", () -> g.isAllowed(), true);
    }

    // Promise 7

    private static void isLoose() {
        HeadGrid g = new HeadGrid();
        CHECK.call("7 new", () -> g.isLoose(), false);
        CHECK.call("7 cut off", () -> loose().isLoose(), true);
        for (int link = 0; link < 24; link++) {
            g.setLink(link, 0);
        }
        CHECK.call("7 no link", () -> g.isLoose(), true);
        // A chain of cells that ends at a single edge point.
        int[] chain = {0, 1, 2, 21, 6, 5, 14, 9};
        for (int link : chain) {
            g.setLink(link, 1);
            CHECK.call("7 chain not yet whole", () -> g.isLoose(), true);
        }
        g.setLink(10, 2);
        CHECK.call("7 chain", () -> g.isLoose(), false);
        g.setLink(0, 0);
        CHECK.call("7 no edge point", () -> g.isLoose(), true);
        g.setLink(11, 1);
        CHECK.call("7 edge point at the other end", () -> g.isLoose(), false);
        g.undo();
        CHECK.call("7 undone", () -> g.isLoose(), true);
    }

    /** Pairs of cells that hold together but touch no edge point. */
    private static void isLooseByGroups() {
        HeadGrid g = new HeadGrid();
        int[] cuts = {0, 12, 4, 2, 6, 16, 17, 18};
        for (int link : cuts) {
            g.setLink(link, 0);
        }
        CHECK.call("7 three still touch", () -> g.isLoose(), false);
        g.setLink(14, 0);
        CHECK.call("7 a group of four", () -> g.isLoose(), true);
        g.setLink(18, 2);
        CHECK.call("7 a group that touches", () -> g.isLoose(), false);
        HeadGrid last = new HeadGrid();
        int[] corner = {10, 11, 22, 23};
        for (int link : corner) {
            last.setLink(link, 0);
        }
        CHECK.call("7 the last cell alone", () -> last.isLoose(), true);
        CHECK.call("7 its determinant", () -> last.determinant(), 0);
    }

    // Promise 8

    private static void head() {
        HeadGrid g = new HeadGrid();
        g.setRecharge(4, 16);
        CHECK.call("8 recharge raises", () -> g.head(4, 0), 106);
        CHECK.call("8 in lowest terms", () -> g.head(4, 1), 1);
        CHECK.call("8 beside", () -> g.head(1, 0), 102);
        CHECK.call("8 corner", () -> g.head(8, 0), 101);
        for (int point = 0; point < 12; point++) {
            g.setEdge(point, 0);
        }
        CHECK.call("8 low", () -> g.head(4, 0), 6);
        g.setRate(4, 16);
        CHECK.call("8 zero", () -> g.head(4, 0), 0);
        CHECK.call("8 zero's denominator", () -> g.head(4, 1), 1);
        g.setRate(4, 17);
        CHECK.call("8 negative", () -> g.head(4, 0), -3);
        CHECK.call("8 denominator above 0", () -> g.head(4, 1), 8);
        CHECK.index("8 head(-1, 0)", () -> g.head(-1, 0));
        CHECK.index("8 head(9, 0)", () -> g.head(9, 0));
        CHECK.index("8 head(9, 2)", () -> g.head(9, 2));
        CHECK.argument("8 head(0, -1)", () -> g.head(0, -1));
        CHECK.argument("8 head(0, 2)", () -> g.head(0, 2));
        CHECK.index("8 loose head(9, 2)", () -> loose().head(9, 2));
        CHECK.argument("8 loose head(0, 2)", () -> loose().head(0, 2));
        CHECK.arithmetic("8 loose head(0, 1)", () -> loose().head(0, 1));
        CHECK.arithmetic("8 loose head(4, 0)", () -> loose().head(4, 0));
    }

    /** The nine cells in a chain, with one edge point at the beginning. */
    private static HeadGrid chain() {
        HeadGrid g = new HeadGrid();
        for (int link = 0; link < 24; link++) {
            g.setLink(link, 0);
        }
        int[] chain = {0, 1, 2, 21, 6, 5, 14, 9, 10};
        for (int link : chain) {
            g.setLink(link, 1);
        }
        return g;
    }

    /** The greatest heads of all. */
    private static void headOfThinGrids() {
        HeadGrid g = chain();
        for (int cell = 0; cell < 9; cell++) {
            g.setRecharge(cell, 1000);
        }
        g.setEdge(9, 1000);
        CHECK.call("8 first of the chain", () -> g.head(0, 0), 10000);
        CHECK.call("8 last of the chain", () -> g.head(8, 0), 46000);
        CHECK.call("8 its denominator", () -> g.head(8, 1), 1);
        CHECK.call("8 determinant of a chain", () -> g.determinant(), 1);
        CHECK.call("8 influence of the last on itself", () -> g.influence(8, 8, 0), 9);
        CHECK.call("8 influence of the last on the first", () -> g.influence(0, 8, 0), 1);
        for (int cell = 0; cell < 9; cell++) {
            g.setRecharge(cell, 0);
            g.setRate(cell, 1000);
        }
        g.setEdge(9, 0);
        CHECK.call("8 lowest of all", () -> g.head(8, 0), -45000);
    }

    // Promises 9 and 10

    private static void flow() {
        HeadGrid g = new HeadGrid();
        CHECK.call("9 no flow", () -> g.flow(0, 0), 0);
        CHECK.call("9 no flow's denominator", () -> g.flow(0, 1), 1);
        g.setRate(4, 16);
        int[] due = {1, 1, -1, -1, 2, 4, -4, -2, 1, 1, -1, -1, 1, 1, -1, -1, 2, 4, -4, -2, 1, 1, -1, -1};
        for (int i = 0; i < 24; i++) {
            int link = i;
            CHECK.call("9 flow(" + link + ")", () -> g.flow(link, 0), due[link]);
        }
        g.setLink(4, 0);
        CHECK.call("9 closed", () -> g.flow(4, 0), 0);
        CHECK.call("9 closed denominator", () -> g.flow(4, 1), 1);
        CHECK.index("9 flow(-1, 0)", () -> g.flow(-1, 0));
        CHECK.index("9 flow(24, 2)", () -> g.flow(24, 2));
        CHECK.argument("9 flow(23, 2)", () -> g.flow(23, 2));
        CHECK.argument("9 flow(0, -1)", () -> g.flow(0, -1));
        CHECK.index("9 loose flow(24, 2)", () -> loose().flow(24, 2));
        CHECK.argument("9 loose flow(0, 2)", () -> loose().flow(0, 2));
        CHECK.arithmetic("9 loose flow(0, 0)", () -> loose().flow(0, 0));
        HeadGrid two = new HeadGrid();
        for (int link = 0; link < 24; link++) {
            two.setLink(link, 2);
        }
        two.setRate(4, 16);
        CHECK.call("9 double conductance, same flow", () -> two.flow(4, 0), 2);
        CHECK.call("9 half the fall", () -> two.head(4, 0), 97);
    }

    private static void inflow() {
        HeadGrid g = new HeadGrid();
        g.setRate(4, 16);
        for (int side = 0; side < 4; side++) {
            int s = side;
            CHECK.call("10 a quarter from each side", () -> g.inflow(s, 0), 4);
            CHECK.call("10 denominator", () -> g.inflow(s, 1), 1);
        }
        // Water enters on the side that is higher and leaves on the others.
        String[] names = {"north", "east", "south", "west"};
        for (int side = 0; side < 4; side++) {
            int s = side;
            HeadGrid high = new HeadGrid();
            for (int i = 0; i < 3; i++) {
                high.setEdge(3 * side + i, 500);
            }
            CHECK.call("10 enters " + names[s], () -> high.inflow(s, 0) > 0, true);
            CHECK.call("10 leaves opposite " + names[s], () -> high.inflow((s + 2) % 4, 0) < 0, true);
            CHECK.call("10 leaves beside " + names[s], () -> high.inflow((s + 1) % 4, 0) < 0, true);
        }
        CHECK.index("10 inflow(-1, 0)", () -> g.inflow(-1, 0));
        CHECK.index("10 inflow(4, 2)", () -> g.inflow(4, 2));
        CHECK.argument("10 inflow(3, 2)", () -> g.inflow(3, 2));
        CHECK.argument("10 loose inflow(3, -1)", () -> loose().inflow(3, -1));
        CHECK.arithmetic("10 loose inflow(3, 1)", () -> loose().inflow(3, 1));
    }

    // Promises 11 and 12

    private static void influence() {
        HeadGrid g = new HeadGrid();
        CHECK.call("11 of the middle on itself", () -> g.influence(4, 4, 0), 3);
        CHECK.call("11 denominator", () -> g.influence(4, 4, 1), 8);
        CHECK.call("11 of a corner on the opposite one", () -> g.influence(8, 0, 0), 3);
        CHECK.call("11 its denominator", () -> g.influence(8, 0, 1), 224);
        g.setRate(4, 999);
        g.setEdge(0, 3);
        CHECK.call("11 does not depend on rates", () -> g.influence(4, 4, 0), 3);
        int[] wall = {1, 5, 9};
        for (int link : wall) {
            g.setLink(link, 0);
        }
        CHECK.call("11 no influence", () -> g.influence(0, 4, 0), 0);
        CHECK.call("11 no influence's denominator", () -> g.influence(0, 4, 1), 1);
        CHECK.index("11 influence(-1, 0, 0)", () -> g.influence(-1, 0, 0));
        CHECK.index("11 influence(0, -1, 0)", () -> g.influence(0, -1, 0));
        CHECK.index("11 influence(9, 0, 0)", () -> g.influence(9, 0, 0));
        CHECK.index("11 influence(0, 9, 2)", () -> g.influence(0, 9, 2));
        CHECK.argument("11 influence(0, 8, 2)", () -> g.influence(0, 8, 2));
        CHECK.argument("11 loose influence(0, 8, -1)", () -> loose().influence(0, 8, -1));
        CHECK.arithmetic("11 loose influence(0, 8, 0)", () -> loose().influence(0, 8, 0));
    }

    private static void drawdown() {
        HeadGrid g = new HeadGrid();
        CHECK.call("12 none", () -> g.drawdown(4, 0), 0);
        CHECK.call("12 none's denominator", () -> g.drawdown(4, 1), 1);
        g.setRecharge(4, 500);
        CHECK.call("12 not of recharge", () -> g.drawdown(4, 0), 0);
        g.setRate(4, 16);
        g.setRate(0, 224);
        CHECK.call("12 of two wells", () -> g.drawdown(4, 0), 6 + 14);
        g.setEdge(4, 0);
        CHECK.call("12 not of the edge", () -> g.drawdown(4, 0), 20);
        CHECK.index("12 drawdown(-1, 0)", () -> g.drawdown(-1, 0));
        CHECK.index("12 drawdown(9, 2)", () -> g.drawdown(9, 2));
        CHECK.argument("12 drawdown(0, 2)", () -> g.drawdown(0, 2));
        CHECK.argument("12 loose drawdown(0, -1)", () -> loose().drawdown(0, -1));
        CHECK.arithmetic("12 loose drawdown(0, 0)", () -> loose().drawdown(0, 0));
    }

    // Promises 13 to 16

    private static void determinant() {
        HeadGrid g = new HeadGrid();
        g.setEdge(3, 77);
        g.setRate(3, 77);
        CHECK.call("13 only of links", () -> g.determinant(), 100352);
        for (int link = 0; link < 24; link++) {
            g.setLink(link, 2);
        }
        CHECK.call("13 greatest", () -> g.determinant(), 512 * 100352);
        int[] inner = {1, 2, 5, 6, 9, 10, 13, 14, 17, 18, 21, 22};
        for (int link : inner) {
            g.setLink(link, 0);
        }
        CHECK.call("13 middle alone", () -> g.determinant(), 0);
        g.setLink(5, 1);
        CHECK.call("13 middle hangs on cell 3", () -> g.determinant(), 4 * 4 * 4 * 4 * 2 * 2 * 2 * 2);
        CHECK.call("13 not loose", () -> g.isLoose(), false);
    }

    private static void extreme() {
        HeadGrid g = new HeadGrid();
        CHECK.call("14 all equal, highest", () -> g.extreme(true), 0);
        CHECK.call("14 all equal, lowest", () -> g.extreme(false), 0);
        g.setRate(4, 1);
        CHECK.call("14 lowest", () -> g.extreme(false), 4);
        CHECK.call("14 highest of four corners", () -> g.extreme(true), 0);
        g.setRate(4, 0);
        g.setRecharge(8, 1);
        CHECK.call("14 highest", () -> g.extreme(true), 8);
        CHECK.call("14 lowest is opposite", () -> g.extreme(false), 0);
        g.setRecharge(8, 0);
        g.setRecharge(4, 1);
        CHECK.call("14 lowest of four corners", () -> g.extreme(false), 0);
        g.setRecharge(0, 1);
        g.setRecharge(4, 0);
        CHECK.call("14 lowest far away", () -> g.extreme(false), 8);
        CHECK.arithmetic("14 loose", () -> loose().extreme(true));
        CHECK.arithmetic("14 loose, lowest", () -> loose().extreme(false));
    }

    private static void dry() {
        HeadGrid g = new HeadGrid();
        g.setLevels(0, 100, 0);
        CHECK.call("15 at the floor", () -> g.dry(), 0);
        g.setLevels(8, 101, 0);
        CHECK.call("15 below the floor", () -> g.dry(), 256);
        g.setRate(8, 1);
        CHECK.call("15 a little below", () -> g.dry(), 257);
        g.setLevels(4, 0, 1000);
        CHECK.call("15 not by limits", () -> g.dry(), 257);
        CHECK.arithmetic("15 loose", () -> loose().dry());
    }

    private static void isAllowed() {
        HeadGrid g = new HeadGrid();
        g.setLevels(8, 0, 100);
        CHECK.call("16 at the limit", () -> g.isAllowed(), true);
        g.setRate(0, 1);
        CHECK.call("16 a little below", () -> g.isAllowed(), false);
        g.setRecharge(8, 1);
        CHECK.call("16 recharge helps", () -> g.isAllowed(), true);
        g.setLevels(0, 1000, 0);
        CHECK.call("16 not by floors", () -> g.isAllowed(), true);
        CHECK.arithmetic("16 loose", () -> loose().isAllowed());
    }

    // Promises 17 to 19

    private static void greatestRate() {
        HeadGrid g = new HeadGrid();
        CHECK.call("17 down to 0", () -> g.greatestRate(4), 266);
        g.setLevels(4, 0, 97);
        CHECK.call("17 exactly at the limit", () -> g.greatestRate(4), 8);
        g.setRate(4, 900);
        CHECK.call("17 its own rate does not count", () -> g.greatestRate(4), 8);
        CHECK.call("17 others' rates count", () -> g.greatestRate(0), -1);
        g.setRate(4, 8);
        CHECK.call("17 nothing left", () -> g.greatestRate(0), 0);
        CHECK.call("17 its own part", () -> g.greatestRate(4), 8);
        g.setLevels(4, 0, 101);
        CHECK.call("17 none", () -> g.greatestRate(4), HeadGrid.NONE);
        g.setLevels(4, 0, 0);
        for (int point = 0; point < 12; point++) {
            g.setEdge(point, 1000);
        }
        CHECK.call("17 not above 1000", () -> g.greatestRate(4), 1000);
        int[] walls = {1, 5, 9};
        for (int link : walls) {
            g.setLink(link, 0);
        }
        g.setLevels(8, 0, 1000);
        CHECK.call("17 another part of the grid is not allowed", () -> g.greatestRate(0), -1);
        g.setRate(4, 0);
        CHECK.call("17 without influence", () -> g.greatestRate(0), 1000);
        CHECK.call("17 with influence", () -> g.greatestRate(1), 0);
        CHECK.index("17 greatestRate(-1)", () -> g.greatestRate(-1));
        CHECK.index("17 greatestRate(9)", () -> g.greatestRate(9));
        CHECK.index("17 loose greatestRate(9)", () -> loose().greatestRate(9));
        CHECK.arithmetic("17 loose greatestRate(0)", () -> loose().greatestRate(0));
    }

    private static void greatestEqual() {
        HeadGrid g = new HeadGrid();
        CHECK.call("18 one well", () -> g.greatestEqual(16), 266);
        CHECK.call("18 all wells", () -> g.greatestEqual(511), 88);
        g.setRate(0, 1000);
        g.setRate(8, 1000);
        CHECK.call("18 rates of the set do not count", () -> g.greatestEqual(511), 88);
        CHECK.call("18 the others' do", () -> g.greatestEqual(510), -1);
        g.setRate(0, 0);
        g.setRate(8, 16);
        CHECK.call("18 with another well at work", () -> g.greatestEqual(16), 264);
        g.setLevels(4, 0, 1000);
        CHECK.call("18 none", () -> g.greatestEqual(1), -1);
        HeadGrid high = new HeadGrid();
        for (int point = 0; point < 12; point++) {
            high.setEdge(point, 1000);
        }
        CHECK.call("18 not above 1000", () -> high.greatestEqual(257), 1000);
        CHECK.argument("18 greatestEqual(0)", () -> g.greatestEqual(0));
        CHECK.argument("18 greatestEqual(512)", () -> g.greatestEqual(512));
        CHECK.argument("18 greatestEqual(513)", () -> g.greatestEqual(513));
        CHECK.argument("18 greatestEqual(-1)", () -> g.greatestEqual(-1));
        CHECK.argument("18 greatestEqual(least)", () -> g.greatestEqual(LEAST));
        CHECK.argument("18 loose greatestEqual(512)", () -> loose().greatestEqual(512));
        CHECK.arithmetic("18 loose greatestEqual(511)", () -> loose().greatestEqual(511));
    }

    private static void bestPair() {
        HeadGrid g = new HeadGrid();
        for (int point = 0; point < 12; point++) {
            g.setEdge(point, 1000);
        }
        CHECK.call("19 both at 1000", () -> g.bestPair(0, 8), 10001000);
        g.setLevels(4, 0, 1000);
        CHECK.call("19 both 0", () -> g.bestPair(0, 8), 0);
        g.setLevels(4, 0, 999);
        CHECK.call("19 of equal sums the smallest rate of a", () -> g.bestPair(0, 8), 16);
        CHECK.call("19 the other way round too", () -> g.bestPair(8, 0), 16);
        g.setRate(0, 500);
        g.setRate(8, 600);
        CHECK.call("19 their rates do not count", () -> g.bestPair(8, 0), 16);
        CHECK.call("19 the others' do", () -> g.bestPair(8, 2), HeadGrid.NONE);
        g.setRate(0, 4);
        CHECK.call("19 a third well at work", () -> g.bestPair(8, 2), 12);
        CHECK.index("19 bestPair(-1, 0)", () -> g.bestPair(-1, 0));
        CHECK.index("19 bestPair(0, 9)", () -> g.bestPair(0, 9));
        CHECK.index("19 bestPair(9, 9)", () -> g.bestPair(9, 9));
        CHECK.argument("19 bestPair(8, 8)", () -> g.bestPair(8, 8));
        CHECK.index("19 loose bestPair(0, -1)", () -> loose().bestPair(0, -1));
        CHECK.argument("19 loose bestPair(0, 0)", () -> loose().bestPair(0, 0));
        CHECK.arithmetic("19 loose bestPair(0, 1)", () -> loose().bestPair(0, 1));
    }

    private static void ratesOfThinGrids() {
        HeadGrid g = chain();
        CHECK.call("17 at the beginning of a chain", () -> g.greatestRate(0), 100);
        CHECK.call("17 at its end", () -> g.greatestRate(8), 11);
        CHECK.call("18 all of a chain", () -> g.greatestEqual(511), 2);
        CHECK.call("19 beginning and end", () -> g.bestPair(0, 8), 1000000);
        CHECK.call("19 end and beginning", () -> g.bestPair(8, 0), 100);
        g.setLevels(0, 0, 100);
        CHECK.call("17 nothing may flow", () -> g.greatestRate(8), 0);
        CHECK.call("19 nothing may flow", () -> g.bestPair(8, 7), 0);
    }

    // Promises 20 to 22

    private static void relax() {
        HeadGrid g = new HeadGrid();
        CHECK.call("20 no sweep", () -> g.relax(0), 0.0);
        CHECK.call("20 undoable though nothing changed", () -> g.undo(), 0);
        CHECK.call("20 one sweep", () -> g.relax(1), 72.265625);
        CHECK.call("20 no sweep after one", () -> g.relax(0), 0.0);
        HeadGrid once = new HeadGrid();
        HeadGrid often = new HeadGrid();
        double last = 0.0;
        for (int i = 0; i < 100; i++) {
            last = once.relax(1);
        }
        CHECK.call("20 the change of the last sweep", () -> often.relax(100), last);
        CHECK.call("20 the same heads", () -> often.relaxed(4), once.relaxed(4));
        CHECK.argument("20 relax(-1)", () -> g.relax(-1));
        CHECK.argument("20 relax(101)", () -> g.relax(101));
        CHECK.argument("20 relax(most)", () -> g.relax(MOST));
        HeadGrid falling = new HeadGrid();
        for (int point = 0; point < 12; point++) {
            falling.setEdge(point, 0);
        }
        falling.setRate(0, 400);
        CHECK.call("20 a fall counts without its sign", () -> falling.relax(1), 100.0);
        CHECK.call("20 a negative head", () -> falling.relaxed(0), -100.0);
    }

    private static void relaxLooseCells() {
        HeadGrid g = new HeadGrid();
        g.relax(1);
        int[] cuts = {5, 6, 17, 18};
        for (int link : cuts) {
            g.setLink(link, 0);
        }
        g.setRecharge(4, 1000);
        g.relax(50);
        CHECK.call("20 a cell without links keeps its head", () -> g.relaxed(4), 18.75);
        CHECK.call("20 the others go on", () -> g.relaxed(1) > 99.0, true);
        HeadGrid all = new HeadGrid();
        for (int link = 0; link < 24; link++) {
            all.setLink(link, 0);
        }
        CHECK.call("20 no links at all", () -> all.relax(3), 0.0);
    }

    private static void relaxed() {
        HeadGrid g = new HeadGrid();
        g.setEdge(3, 200);
        g.setLink(0, 2);
        g.setRecharge(1, 10);
        g.setRate(2, 20);
        g.relax(1);
        double[] want = new double[9];
        want[0] = 300.0 / 5.0;
        want[1] = (100.0 + want[0] + 10.0) / 4.0;
        want[2] = (300.0 + want[1] - 20.0) / 4.0;
        want[3] = (want[0] + 100.0) / 4.0;
        want[4] = (want[1] + want[3]) / 4.0;
        want[5] = (want[2] + 100.0 + want[4]) / 4.0;
        want[6] = (want[3] + 100.0 + 100.0) / 4.0;
        want[7] = (want[4] + 100.0 + want[6]) / 4.0;
        want[8] = (want[5] + 100.0 + 100.0 + want[7]) / 4.0;
        for (int cell = 0; cell < 9; cell++) {
            int c = cell;
            CHECK.call("21 relaxed(" + c + ")", () -> g.relaxed(c), want[c]);
        }
        CHECK.index("21 relaxed(-1)", () -> g.relaxed(-1));
        CHECK.index("21 relaxed(9)", () -> g.relaxed(9));
        CHECK.call("21 also if the grid is loose", () -> loose().relaxed(0), 0.0);
    }

    private static void error() {
        HeadGrid g = new HeadGrid();
        CHECK.call("22 before a sweep", () -> g.error(), 100.0);
        g.relax(100);
        CHECK.call("22 after a hundred", () -> g.error() < 1e-10, true);
        g.setRate(4, 1000);
        g.relax(1);
        HeadGrid low = new HeadGrid();
        low.setRate(4, 1000);
        CHECK.call("22 an exact head below", () -> low.error(), 275.0);
        low.setRate(4, 1);
        CHECK.call("22 not a whole number", () -> low.error(), 100.0 - 1.0 / 16.0);
        low.setRecharge(4, 1);
        low.setRecharge(0, 1);
        CHECK.call("22 a quotient", () -> low.error(), (double) low.head(0, 0) / (double) low.head(0, 1));
        CHECK.arithmetic("22 loose", () -> loose().error());
    }

    // Promise 23

    private static void undo() {
        HeadGrid g = new HeadGrid();
        CHECK.call("23 nothing saved", () -> g.undo(), "throws IllegalStateException");
        for (int i = 1; i <= 6; i++) {
            g.setRate(0, i);
        }
        CHECK.call("23 three remain", () -> g.undo(), 3);
        CHECK.call("23 two remain", () -> g.undo(), 2);
        CHECK.call("23 after undo", () -> g.setRate(0, 50), 4);
        CHECK.call("23 two remain again", () -> g.undo(), 2);
        CHECK.call("23 one remains", () -> g.undo(), 1);
        CHECK.call("23 none remains", () -> g.undo(), 0);
        CHECK.call("23 the oldest were dropped", () -> g.undo(), "throws IllegalStateException");
        CHECK.call("23 the state of the fourth last call", () -> g.setRate(0, 2), 2);
        CHECK.call("23 saved though nothing changed", () -> g.undo(), 0);
        CHECK.argument("23 a call that throws", () -> g.setRate(0, 1001));
        CHECK.call("23 saves nothing", () -> g.undo(), "throws IllegalStateException");
    }

    private static void undoRestoresEverything() {
        HeadGrid g = new HeadGrid();
        g.setLink(3, 2);
        g.setEdge(3, 5);
        g.relax(7);
        g.setLevels(3, 4, 5);
        long before = g.digest();
        Check.Call[] calls = {
            () -> g.setLink(5, 0), () -> g.setEdge(7, 1), () -> g.setRecharge(2, 9), () -> g.setRate(8, 6),
            () -> g.setLevels(3, 1, 2), () -> g.relax(100), () -> g.relax(0),
        };
        g.setRate(1, 1);
        g.undo();
        // Three states are saved from here on, so that a call and its undo leave the same number.
        long now = g.digest();
        CHECK.due("23 one saved state less", now, before - 1);
        for (Check.Call call : calls) {
            call.answer();
            CHECK.call("23 remain", () -> g.undo(), 3);
            CHECK.call("23 everything is as before", () -> g.digest(), now);
            CHECK.call("23 solved again", () -> g.head(4, 1), referenceOfUndo().head(4, 1));
        }
    }

    private static ReferenceGrid referenceOfUndo() {
        ReferenceGrid r = new ReferenceGrid();
        r.setLink(3, 2);
        r.setEdge(3, 5);
        return r;
    }

    // Promise 24

    private static void digest() {
        HeadGrid g = loose();
        ReferenceGrid r = new ReferenceGrid();
        int[] cuts = {5, 6, 17, 18};
        for (int link : cuts) {
            r.setLink(link, 0);
        }
        CHECK.call("24 loose", () -> g.digest(), r.digest());
        g.undo();
        r.undo();
        CHECK.call("24 tight", () -> g.digest(), r.digest());
        HeadGrid a = new HeadGrid();
        long first = a.digest();
        a.setRate(0, 0);
        CHECK.call("24 the number of saved states", () -> a.digest(), first + 1);
        CHECK.call("24 the same again", () -> a.digest(), first + 1);
    }

    /** A power of two has no bits behind the first, and its neighbours have all or one. */
    private static void digestOfPowersOfTwo() {
        HeadGrid g = new HeadGrid();
        ReferenceGrid r = new ReferenceGrid();
        for (int point = 0; point < 12; point++) {
            g.setEdge(point, 0);
            r.setEdge(point, 0);
        }
        for (int load = 1; load <= 512; load *= 2) {
            g.setRecharge(0, load);
            r.setRecharge(0, load);
            for (int rate = 0; rate < 3; rate++) {
                g.setRate(0, rate);
                r.setRate(0, rate);
                CHECK.due("24 change of a power of two", g.relax(1), r.relax(1));
                CHECK.due("24 bits of a power of two", g.digest(), r.digest());
                g.undo();
                r.undo();
            }
            CHECK.due("24 undone", g.digest(), r.digest());
        }
    }

    /** Heads that decay to 0, from above and from below, pass through subnormal numbers and -0.0. */
    private static void digestOfSmallHeads() {
        boolean minusZero = false;
        boolean subnormal = false;
        for (int below = 0; below < 2; below++) {
            HeadGrid g = new HeadGrid();
            ReferenceGrid r = new ReferenceGrid();
            for (int point = 0; point < 12; point++) {
                g.setEdge(point, 0);
                r.setEdge(point, 0);
            }
            for (int load = 7; load >= 0; load -= 7) {
                if (below == 1) {
                    g.setRate(4, load);
                    r.setRate(4, load);
                } else {
                    g.setRecharge(4, load);
                    r.setRecharge(4, load);
                }
                CHECK.due("24 change", g.relax(3), r.relax(3));
            }
            for (int i = 0; i < 10; i++) {
                CHECK.due("24 change", g.relax(100), r.relax(100));
                CHECK.due("24 bits", g.digest(), r.digest());
            }
            for (int i = 0; i < 120; i++) {
                CHECK.due("24 change near zero", g.relax(1), r.relax(1));
                CHECK.due("24 bits near zero", g.digest(), r.digest());
                for (int cell = 0; cell < 9; cell++) {
                    double h = r.relaxed(cell);
                    minusZero |= Double.doubleToLongBits(h) == Long.MIN_VALUE;
                    subnormal |= h != 0.0 && Math.abs(h) < Double.MIN_NORMAL;
                }
            }
            CHECK.due("24 all heads have come to 0", g.relaxed(4), 0.0);
        }
        CHECK.due("24 there was a -0.0", minusZero, true);
        CHECK.due("24 there was a subnormal number", subnormal, true);
    }

    /** Cells that are loose together drift without end, up and down. */
    private static void digestOfDriftingHeads() {
        for (int down = 0; down < 2; down++) {
            HeadGrid g = new HeadGrid();
            ReferenceGrid r = new ReferenceGrid();
            int[] cuts = {0, 2, 12, 13, 16, 17};
            for (int link : cuts) {
                g.setLink(link, 0);
                r.setLink(link, 0);
            }
            for (int cell = 0; cell < 2; cell++) {
                if (down == 1) {
                    g.setRate(cell, 1000);
                    r.setRate(cell, 1000);
                } else {
                    g.setRecharge(cell, 1000);
                    r.setRecharge(cell, 1000);
                }
            }
            CHECK.due("24 loose pair", g.isLoose(), true);
            for (int i = 0; i < 200; i++) {
                CHECK.due("24 drift", g.relax(100), r.relax(100));
                CHECK.due("24 bits of drift", g.digest(), r.digest());
            }
            CHECK.due("24 far away", Math.abs(g.relaxed(0)) > 1e7, true);
        }
    }

    // Exceptions

    private static void throwingChangesNothing() {
        HeadGrid g = loose();
        g.relax(2);
        g.setLevels(2, 3, 4);
        long before = g.digest();
        Check.Call[] calls = {
            () -> g.setLink(24, 0), () -> g.setLink(0, 3), () -> g.setEdge(12, 0), () -> g.setEdge(0, 1001),
            () -> g.setRecharge(9, 0), () -> g.setRecharge(0, 1001), () -> g.setRate(9, 0), () -> g.setRate(0, 1001),
            () -> g.setLevels(9, 0, 0), () -> g.setLevels(0, 1001, 1), () -> g.setLevels(0, 1, 1001),
            () -> g.head(0, 0), () -> g.flow(0, 0), () -> g.inflow(0, 0), () -> g.influence(0, 0, 0),
            () -> g.drawdown(0, 0), () -> g.extreme(true), () -> g.dry(), () -> g.isAllowed(),
            () -> g.greatestRate(0), () -> g.greatestEqual(1), () -> g.bestPair(0, 1), () -> g.relax(101),
            () -> g.relaxed(9), () -> g.error(),
        };
        for (int i = 0; i < calls.length; i++) {
            Object outcome = Check.outcome(calls[i]);
            CHECK.due("call " + i + " throws", outcome instanceof String, true);
            CHECK.due("call " + i + " changes nothing", g.digest(), before);
        }
        CHECK.call("saved states are the same", () -> g.undo(), 3);
    }
}
