/**
 * Each range of the document: the last value inside it is taken and the first outside it is refused, on both ends, and
 * after a refused call the value is the one from before. Each run names the sentence that it would find broken.
 */
public final class RangesTest {
    private static final String INDEX = Scripts.INDEX;
    private static final String ARGUMENT = Scripts.ARGUMENT;
    private static final String LEAST = Scripts.LEAST;
    private static final String MOST = Scripts.MOST;
    private static final Check CHECK = new Check();

    public static void main(String[] args) {
        links();
        conductances();
        points();
        edgeHeads();
        cellsOfSettings();
        recharges();
        rates();
        floors();
        limits();
        cellsOfHeads();
        linksOfFlows();
        sides();
        cellsOfInfluence();
        cellsOfDrawdown();
        parts();
        cellsOfRates();
        cellSets();
        pairs();
        sweeps();
        cellsOfRelaxedHeads();
        CHECK.finish();
    }

    // Promise 2

    private static void links() {
        CHECK.run("2 link: 0 to 23, all of them", Check.each("setLink(#, 2) = 1", 24),
                Check.each("setLink(#, 0) = 2", 24));
        CHECK.run("2 link: 0 and 23 are the ends",
                "setLink(0, 2) = 1; setLink(23, 0) = 1; setLink(0, 1) = 2; setLink(23, 1) = 0");
        CHECK.run("2 there is no link -1", "setLink(-1, 2)" + INDEX, "setLink(0, 1) = 1; undo() = 0");
        CHECK.run("2 there is no link 24", "setLink(24, 2)" + INDEX, "setLink(23, 1) = 1; undo() = 0");
        CHECK.run("2 no link far below", "setLink(" + LEAST + ", 1)" + INDEX, "undo()" + Scripts.STATE);
        CHECK.run("2 no link far above", "setLink(" + MOST + ", 1)" + INDEX, "undo()" + Scripts.STATE);
    }

    private static void conductances() {
        CHECK.run("2 conductance: 0 is taken", "setLink(7, 0) = 1; setLink(7, 1) = 0");
        CHECK.run("2 conductance: 2 is taken", "setLink(7, 2) = 1; setLink(7, 1) = 2");
        CHECK.run("2 conductance -1 is out of range", "setLink(7, -1)" + ARGUMENT, "setLink(7, 2) = 1; undo() = 0");
        CHECK.run("2 conductance 3 is out of range", "setLink(7, 3)" + ARGUMENT, "setLink(7, 2) = 1; undo() = 0");
        CHECK.run("2 conductance far below", "setLink(0, " + LEAST + ")" + ARGUMENT, "setLink(0, 0) = 1");
        CHECK.run("2 conductance far above", "setLink(23, " + MOST + ")" + ARGUMENT, "setLink(23, 0) = 1");
        CHECK.run("2 conductance 256 is not 0", "setLink(1, 256)" + ARGUMENT, "setLink(1, 1) = 1");
        CHECK.run("2 refused between two that are taken",
                "setLink(3, 2) = 1;", "setLink(3, 3)" + ARGUMENT, "setLink(3, 0) = 2;", "setLink(3, -1)" + ARGUMENT,
                "setLink(3, 1) = 0; undo() = 2");
    }

    // Promise 3

    private static void points() {
        CHECK.run("3 point: 0 to 11, all of them", Check.each("setEdge(#, 5) = 100", 12),
                Check.each("setEdge(#, 6) = 5", 12));
        CHECK.run("3 there is no edge point -1", "setEdge(-1, 7)" + INDEX, "setEdge(0, 7) = 100; undo() = 0");
        CHECK.run("3 there is no edge point 12", "setEdge(12, 7)" + INDEX, "setEdge(11, 7) = 100; undo() = 0");
        CHECK.run("3 no edge point far below", "setEdge(" + LEAST + ", 7)" + INDEX, "undo()" + Scripts.STATE);
        CHECK.run("3 no edge point far above", "setEdge(" + MOST + ", 7)" + INDEX, "undo()" + Scripts.STATE);
    }

    private static void edgeHeads() {
        CHECK.run("3 head: 0 is taken, at every point", Check.each("setEdge(#, 0) = 100; setEdge(#, 3) = 0", 12));
        CHECK.run("3 head: 1000 is taken, at every point",
                Check.each("setEdge(#, 1000) = 100; setEdge(#, 3) = 1000", 12));
        CHECK.run("3 head -1 is out of range", "setEdge(5, -1)" + ARGUMENT, "setEdge(5, 1) = 100; undo() = 0");
        CHECK.run("3 head 1001 is out of range", "setEdge(5, 1001)" + ARGUMENT, "setEdge(5, 1) = 100; undo() = 0");
        CHECK.run("3 head far below", "setEdge(0, " + LEAST + ")" + ARGUMENT, "setEdge(0, 1) = 100");
        CHECK.run("3 head far above", "setEdge(11, " + MOST + ")" + ARGUMENT, "setEdge(11, 1) = 100");
    }

    // Promises 4 to 6

    private static void cellsOfSettings() {
        String[] calls = {"4 setRecharge(%s, 9)", "5 setRate(%s, 9)", "6 setLevels(%s, 9, 9)"};
        for (String numbered : calls) {
            String number = numbered.substring(0, 1);
            String call = numbered.substring(2);
            CHECK.run(number + " cell: 0 to 8, all of them", Check.each(call.replace("%s", "#") + " = 0", 9),
                    Check.each(call.replace("%s", "#") + " = 9", 9));
            CHECK.run(number + " there is no cell -1", call.replace("%s", "-1") + INDEX,
                    call.replace("%s", "0") + " = 0; undo() = 0");
            CHECK.run(number + " there is no cell 9", call.replace("%s", "9") + INDEX,
                    call.replace("%s", "8") + " = 0; undo() = 0");
            CHECK.run(number + " no cell far below", call.replace("%s", LEAST) + INDEX, "undo()" + Scripts.STATE);
            CHECK.run(number + " no cell far above", call.replace("%s", MOST) + INDEX, "undo()" + Scripts.STATE);
        }
    }

    private static void recharges() {
        CHECK.run("4 recharge: 0 is taken, in every cell",
                Check.each("setRecharge(#, 3) = 0; setRecharge(#, 0) = 3; setRecharge(#, 1) = 0", 9));
        CHECK.run("4 recharge: 1000 is taken, in every cell",
                Check.each("setRecharge(#, 1000) = 0; setRecharge(#, 1) = 1000", 9));
        CHECK.run("4 recharge -1 is out of range", "setRecharge(4, -1)" + ARGUMENT,
                "setRecharge(4, 1) = 0; undo() = 0");
        CHECK.run("4 recharge 1001 is out of range", "setRecharge(4, 1001)" + ARGUMENT,
                "setRecharge(4, 1) = 0; undo() = 0");
        CHECK.run("4 recharge far below", "setRecharge(0, " + LEAST + ")" + ARGUMENT, "setRecharge(0, 1) = 0");
        CHECK.run("4 recharge far above", "setRecharge(8, " + MOST + ")" + ARGUMENT, "setRecharge(8, 1) = 0");
        CHECK.run("4 recharge 1000 raises the head by as much", Scripts.COMB,
                "setRecharge(0, 1000) = 0; head(0, 0) = 1100");
    }

    private static void rates() {
        CHECK.run("5 rate: 0 is taken, in every cell",
                Check.each("setRate(#, 3) = 0; setRate(#, 0) = 3; setRate(#, 1) = 0", 9));
        CHECK.run("5 rate: 1000 is taken, in every cell", Check.each("setRate(#, 1000) = 0; setRate(#, 1) = 1000", 9));
        CHECK.run("5 rate -1 is out of range", "setRate(4, -1)" + ARGUMENT, "setRate(4, 1) = 0; undo() = 0");
        CHECK.run("5 rate 1001 is out of range", "setRate(4, 1001)" + ARGUMENT, "setRate(4, 1) = 0; undo() = 0");
        CHECK.run("5 rate far below", "setRate(0, " + LEAST + ")" + ARGUMENT, "setRate(0, 1) = 0");
        CHECK.run("5 rate far above", "setRate(8, " + MOST + ")" + ARGUMENT, "setRate(8, 1) = 0");
        CHECK.run("5 rate 1000 lowers the head by as much", Scripts.COMB, "setRate(0, 1000) = 0; head(0, 0) = -900");
    }

    private static void floors() {
        CHECK.run("6 floor: 0 is taken", "setLevels(4, 101, 0); dry() = 16; setLevels(4, 0, 0) = 0; dry() = 0");
        CHECK.run("6 floor: 1000 is taken", Scripts.edges(1000), "setLevels(4, 1000, 0) = 0; dry() = 0;",
                "setEdge(0, 999); dry() = 16");
        CHECK.run("6 floor -1 is out of range", "setLevels(4, 101, 7) = 0;", "setLevels(4, -1, 8)" + ARGUMENT,
                "dry() = 16; setLevels(4, 101, 9) = 7; undo() = 1");
        CHECK.run("6 floor 1001 is out of range", "setLevels(4, 1001, 8)" + ARGUMENT,
                "dry() = 0; setLevels(4, 0, 9) = 0; undo() = 0");
        CHECK.run("6 floor far below", "setLevels(0, " + LEAST + ", 8)" + ARGUMENT, "setLevels(0, 0, 9) = 0");
        CHECK.run("6 floor far above", "setLevels(8, " + MOST + ", 8)" + ARGUMENT, "dry() = 0; setLevels(8, 0, 9) = 0");
        CHECK.run("6 the floor may be above the limit", "setLevels(4, 1000, 0) = 0; dry() = 16; isAllowed() = true");
    }

    private static void limits() {
        CHECK.run("6 limit: 0 is taken, in every cell",
                Check.each("setLevels(#, 0, 3) = 0; setLevels(#, 0, 0) = 3; setLevels(#, 0, 1) = 0", 9));
        CHECK.run("6 limit: 1000 is taken, in every cell",
                Check.each("setLevels(#, 0, 1000) = 0; setLevels(#, 0, 1) = 1000", 9));
        CHECK.run("6 limit -1 is out of range", "setLevels(4, 101, -1)" + ARGUMENT,
                "dry() = 0; setLevels(4, 0, 1) = 0; undo() = 0");
        CHECK.run("6 limit 1001 is out of range", "setLevels(4, 101, 1001)" + ARGUMENT,
                "dry() = 0; setLevels(4, 0, 1) = 0; undo() = 0");
        CHECK.run("6 limit far below", "setLevels(0, 0, " + LEAST + ")" + ARGUMENT, "setLevels(0, 0, 1) = 0");
        CHECK.run("6 limit far above", "setLevels(8, 0, " + MOST + ")" + ARGUMENT, "setLevels(8, 0, 1) = 0");
        CHECK.run("6 the limit may be above the floor", "setLevels(4, 0, 1000) = 0; dry() = 0; isAllowed() = false");
    }

    // Promises 8 to 12: in the comb every head tells its cell.

    private static final String SLOPE = Scripts.COMB + "setEdge(0, 10); setEdge(1, 20); setEdge(2, 30);"
            + Check.each("setRecharge(#, 1)", 9);

    private static void cellsOfHeads() {
        CHECK.run("8 cell: 0 to 8, all of them", SLOPE, "head(0, 0) = 13; head(1, 0) = 23; head(2, 0) = 33;",
                "head(3, 0) = 15; head(4, 0) = 25; head(5, 0) = 35; head(6, 0) = 16; head(7, 0) = 26; head(8, 0) = 36");
        refusedIndices("8", "head(%s, 0)", 9);
    }

    private static void linksOfFlows() {
        CHECK.run("9 link: 0 to 23, the first and the last", SLOPE, "setLink(0, 2); setLink(23, 2);",
                "setEdge(9, 1000); setEdge(8, 0); flow(0, 0) = 658; flow(23, 0) = 72; flow(23, 1) = 7");
        CHECK.run("9 link: every vertical one", SLOPE,
                "flow(12, 0) = -3; flow(13, 0) = -2; flow(14, 0) = -1; flow(15, 0) = 0; flow(16, 0) = -3;",
                "flow(17, 0) = -2;",
                "flow(18, 0) = -1; flow(19, 0) = 0; flow(20, 0) = -3; flow(21, 0) = -2; flow(22, 0) = -1;",
                "flow(23, 0) = 0");
        CHECK.run("9 link: every horizontal one", "setRecharge(4, 16);",
                "flow(0, 0) = -1; flow(1, 0) = -1; flow(2, 0) = 1; flow(3, 0) = 1; flow(4, 0) = -2; flow(5, 0) = -4;",
                "flow(6, 0) = 4; flow(7, 0) = 2; flow(8, 0) = -1; flow(9, 0) = -1; flow(10, 0) = 1; flow(11, 0) = 1");
        refusedIndices("9", "flow(%s, 0)", 24);
    }

    private static void sides() {
        CHECK.run("10 side: 0 north, 1 east, 2 south, 3 west", Scripts.WINDMILL,
                "setRate(4, 10); setRate(2, 20); setRate(8, 30); setRecharge(6, 40);",
                "inflow(0, 0) = 10; inflow(1, 0) = 20; inflow(2, 0) = 30; inflow(3, 0) = -40");
        refusedIndices("10", "inflow(%s, 0)", 4);
    }

    private static void cellsOfInfluence() {
        CHECK.run("11 i: 0 to 8, all of them", Scripts.COMB,
                "influence(0, 7, 0) = 0; influence(1, 7, 0) = 1; influence(2, 7, 0) = 0;",
                "influence(3, 7, 0) = 0; influence(4, 7, 0) = 2; influence(5, 7, 0) = 0;",
                "influence(6, 7, 0) = 0; influence(7, 7, 0) = 3; influence(8, 7, 0) = 0; influence(8, 8, 0) = 3");
        CHECK.run("11 j: 0 to 8, all of them", Scripts.COMB,
                "influence(8, 0, 0) = 0; influence(8, 1, 0) = 0; influence(8, 2, 0) = 1;",
                "influence(8, 3, 0) = 0; influence(8, 4, 0) = 0; influence(8, 5, 0) = 2;",
                "influence(8, 6, 0) = 0; influence(8, 7, 0) = 0; influence(8, 8, 0) = 3; influence(0, 0, 0) = 1");
        refusedIndices("11 i", "influence(%s, 0, 0)", 9);
        refusedIndices("11 j", "influence(0, %s, 0)", 9);
        CHECK.run("11 neither i nor j is a cell", "influence(9, 9, 0)" + INDEX, "influence(-1, -1, 1)" + INDEX,
                "influence(-1, 9, 1)" + INDEX);
    }

    private static void cellsOfDrawdown() {
        CHECK.run("12 cell: 0 to 8, all of them", Scripts.COMB, "setRate(6, 1); setRate(4, 10); setRate(2, 100);",
                "drawdown(0, 0) = 1; drawdown(1, 0) = 10; drawdown(2, 0) = 100;",
                "drawdown(3, 0) = 2; drawdown(4, 0) = 20; drawdown(5, 0) = 100;",
                "drawdown(6, 0) = 3; drawdown(7, 0) = 20; drawdown(8, 0) = 100");
        refusedIndices("12", "drawdown(%s, 0)", 9);
    }

    private static void refusedIndices(String number, String call, int count) {
        String last = Integer.toString(count - 1);
        CHECK.run(number + " the first and the last are taken", call.replace("%s", "0"), call.replace("%s", last));
        CHECK.run(number + " there is no -1", call.replace("%s", "-1") + INDEX, "undo()" + Scripts.STATE);
        CHECK.run(number + " there is no " + count, call.replace("%s", Integer.toString(count)) + INDEX,
                "undo()" + Scripts.STATE);
        CHECK.run(number + " none far below", call.replace("%s", LEAST) + INDEX);
        CHECK.run(number + " none far above", call.replace("%s", MOST) + INDEX);
    }

    private static void parts() {
        part("8", "head(0, %s)", "29033", "224");
        part("9", "flow(12, %s)", "15767", "224");
        part("10", "inflow(0, %s)", "403", "7");
        part("11", "influence(0, 0, %s)", "67", "224");
        part("12", "drawdown(0, %s)", "67", "224");
    }

    /** The head of cell 0 is 7275 / 56, as in the document's first example, minus the influence 67 / 224. */
    private static void part(String number, String call, String numerator, String denominator) {
        String start = "setEdge(0, 200); setRate(0, 1);";
        String zero = call.replace("%s", "0") + " = " + numerator + ";";
        String one = call.replace("%s", "1") + " = " + denominator + ";";
        CHECK.run(number + " part: 0 is the numerator", start, zero);
        CHECK.run(number + " part: 1 is the denominator", start, one);
        for (String wrong : new String[] {"-1", "2", LEAST, MOST}) {
            CHECK.run(number + " part " + wrong + " is neither 0 nor 1", start, call.replace("%s", wrong) + ARGUMENT,
                    zero, one, "undo() = 1");
        }
    }

    // Promises 17 to 19

    private static void cellsOfRates() {
        CHECK.run("17 cell: 0 to 8, all of them", Scripts.COMB, "setEdge(1, 600); setEdge(2, 1000);",
                "greatestRate(0) = 100; greatestRate(1) = 600; greatestRate(2) = 1000;",
                "greatestRate(3) = 50; greatestRate(4) = 300; greatestRate(5) = 500;",
                "greatestRate(6) = 33; greatestRate(7) = 200; greatestRate(8) = 333");
        refusedIndices("17", "greatestRate(%s)", 9);
    }

    private static void cellSets() {
        CHECK.run("18 cells: one cell, the first", Scripts.COMB, "greatestEqual(1) = 100");
        CHECK.run("18 cells: one cell, the last", Scripts.COMB, "greatestEqual(256) = 33");
        CHECK.run("18 cells: all of them", Scripts.COMB, "greatestEqual(511) = 16");
        CHECK.run("18 cells: a set without the last", Scripts.COMB, "greatestEqual(255) = 16");
        CHECK.run("18 an empty set is refused", "greatestEqual(0)" + ARGUMENT, "undo()" + Scripts.STATE);
        CHECK.run("18 cell 9 does not exist", "greatestEqual(512)" + ARGUMENT, "undo()" + Scripts.STATE);
        CHECK.run("18 cell 9 beside cells that exist", "greatestEqual(513)" + ARGUMENT,
                "greatestEqual(1023)" + ARGUMENT);
        CHECK.run("18 cell 31 does not exist", "greatestEqual(" + LEAST + ")" + ARGUMENT,
                "greatestEqual(-1)" + ARGUMENT);
        CHECK.run("18 cell 31 beside cell 0", "greatestEqual(-2147483647)" + ARGUMENT);
        CHECK.run("18 cells 0 to 30", "greatestEqual(" + MOST + ")" + ARGUMENT);
        for (int cell = 9; cell < 32; cell++) {
            CHECK.run("18 cell " + cell + " does not exist", "greatestEqual(" + (1 << cell) + ")" + ARGUMENT,
                    "greatestEqual(" + (1 << cell | 16) + ")" + ARGUMENT);
        }
    }

    private static void pairs() {
        CHECK.run("19 a: 0 to 8, all others with b", Scripts.COMB,
                "bestPair(0, 8) = 1000033; bestPair(1, 8) = 1000033; bestPair(2, 8) = 1000000;",
                "bestPair(3, 8) = 500033; bestPair(4, 8) = 500033; bestPair(5, 8) = 500000; bestPair(6, 8) = 330033;",
                "bestPair(7, 8) = 330033");
        CHECK.run("19 b: 0 to 8, all others with a", Scripts.COMB,
                "bestPair(0, 1) = 1000100; bestPair(0, 2) = 1000100; bestPair(0, 3) = 1000000;",
                "bestPair(0, 4) = 1000050; bestPair(0, 5) = 1000050; bestPair(0, 6) = 1000000;",
                "bestPair(0, 7) = 1000033; bestPair(0, 8) = 1000033");
        for (String wrong : new String[] {"-1", "9", LEAST, MOST}) {
            CHECK.run("19 a: there is no cell " + wrong, "bestPair(" + wrong + ", 0)" + INDEX,
                    "undo()" + Scripts.STATE);
            CHECK.run("19 b: there is no cell " + wrong, "bestPair(0, " + wrong + ")" + INDEX,
                    "undo()" + Scripts.STATE);
            CHECK.run("19 no cell " + wrong + ", twice", "bestPair(" + wrong + ", " + wrong + ")" + INDEX);
        }
        CHECK.run("19 a equals b, in every cell", Check.each("bestPair(#, #)" + ARGUMENT.replace(";", ""), 9));
    }

    // Promises 20 and 21

    private static void sweeps() {
        CHECK.run("20 sweeps: 0 is taken", "relax(0) = 0.0; undo() = 0");
        CHECK.run("20 sweeps: 1 is taken", "relax(1) = 72.265625; undo() = 0");
        CHECK.run("20 sweeps: 100 is taken", "relax(100) = 0.0; relaxed(0) = 100.0; undo() = 0");
        CHECK.run("20 sweeps -1 is out of range", "relax(-1)" + ARGUMENT, "relaxed(0) = 0.0;",
                "undo()" + Scripts.STATE);
        CHECK.run("20 sweeps 101 is out of range", "relax(101)" + ARGUMENT, "relaxed(0) = 0.0;",
                "undo()" + Scripts.STATE);
        CHECK.run("20 sweeps far below", "relax(" + LEAST + ")" + ARGUMENT, "relaxed(8) = 0.0");
        CHECK.run("20 sweeps far above", "relax(" + MOST + ")" + ARGUMENT, "relaxed(8) = 0.0");
    }

    private static void cellsOfRelaxedHeads() {
        CHECK.run("21 cell: 0 to 8, all of them", Scripts.COMB, "setEdge(1, 200); setEdge(2, 400); relax(1) = 200.0;",
                "relaxed(0) = 50.0; relaxed(1) = 100.0; relaxed(2) = 200.0; relaxed(3) = 25.0; relaxed(4) = 50.0;",
                "relaxed(5) = 100.0; relaxed(6) = 25.0; relaxed(7) = 50.0; relaxed(8) = 100.0");
        refusedIndices("21", "relaxed(%s)", 9);
    }
}
