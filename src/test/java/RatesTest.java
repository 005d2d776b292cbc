/** The boundaries of promises 17 to 19: the rates 0 and 1000, NONE, heads exactly at their limits, equal sums. */
public final class RatesTest {
    private static final Check CHECK = new Check();

    public static void main(String[] args) {
        greatestRateFromZero();
        greatestRateUpToThousand();
        greatestRateIsNone();
        greatestRateOfOthers();
        greatestEqualFromZero();
        greatestEqualUpToThousand();
        greatestEqualIsNone();
        greatestEqualOfOthers();
        greatestEqualOfEverySet();
        bestPairFromZero();
        bestPairUpToThousand();
        bestPairIsNone();
        bestPairOfEqualSums();
        bestPairOfOthers();
        questionsChangeNoRate();
        whatIsFoundIsAllowed();
        CHECK.finish();
    }

    // Promise 17

    private static void greatestRateFromZero() {
        CHECK.run("17 only the rate 0 is allowed", Scripts.COMB, "setLevels(0, 0, 100); greatestRate(0) = 0");
        CHECK.run("17 0 is not NONE: at the limit without a rate", Scripts.COMB,
                "setEdge(0, 0); greatestRate(0) = 0; greatestRate(6) = 0");
        CHECK.run("17 the rate 1 is just allowed", Scripts.COMB, "setLevels(0, 0, 99); greatestRate(0) = 1");
        CHECK.run("17 less than 1 is not whole", Scripts.COMB,
                "setLevels(6, 0, 98); greatestRate(6) = 0; setLevels(6, 0, 97); greatestRate(6) = 1");
        CHECK.run("17 a fraction is rounded down", Scripts.COMB,
                "setLevels(6, 0, 95); greatestRate(6) = 1; setLevels(6, 0, 94); greatestRate(6) = 2");
    }

    private static void greatestRateUpToThousand() {
        CHECK.run("17 1000 is just allowed", Scripts.COMB, "setEdge(0, 1000); greatestRate(0) = 1000");
        CHECK.run("17 999 is just allowed, by the edge", Scripts.COMB, "setEdge(0, 999); greatestRate(0) = 999");
        CHECK.run("17 999 is just allowed, by the limit", Scripts.COMB,
                "setEdge(0, 1000); setLevels(0, 0, 1); greatestRate(0) = 999");
        CHECK.run("17 not above 1000: 1001 would be allowed", Scripts.COMB,
                "setEdge(0, 1000); setRecharge(0, 1); greatestRate(0) = 1000");
        CHECK.run("17 not above 1000: 2000 would be allowed", Scripts.COMB,
                "setEdge(0, 1000); setRecharge(0, 1000); greatestRate(0) = 1000");
        CHECK.run("17 not above 1000: no limit is near", Scripts.CHAIN, "setEdge(9, 1000);",
                Check.each("setRecharge(#, 1000)", 9), "greatestRate(8) = 1000");
    }

    private static void greatestRateIsNone() {
        CHECK.run("17 NONE by its own limit", Scripts.COMB, "setLevels(0, 0, 101); greatestRate(0) = -1");
        CHECK.run("17 NONE by a little", Scripts.COMB,
                "setLink(16, 2); setRate(4, 1); setLevels(1, 0, 100); greatestRate(0) = -1");
        CHECK.run("17 NONE by the limit of any cell", Scripts.COMB, "setLevels(8, 0, 101);",
                Check.each("greatestRate(#) = -1", 9));
        CHECK.run("17 NONE by another well", Scripts.COMB,
                "setEdge(1, 0); setRate(1, 1); greatestRate(0) = -1; greatestRate(7) = -1; greatestRate(1) = 0");
        CHECK.run("17 NONE though recharge is high elsewhere", Scripts.COMB,
                "setRecharge(0, 1000); setLevels(1, 0, 101); greatestRate(0) = -1");
    }

    private static void greatestRateOfOthers() {
        CHECK.run("17 its own rate does not count", Scripts.COMB,
                "setRate(0, 1000); isAllowed() = false; greatestRate(0) = 100");
        CHECK.run("17 all other rates being as they are", Scripts.COMB,
                "setRate(3, 20); greatestRate(0) = 60; greatestRate(6) = 20");
        CHECK.run("17 limits of other cells bind", Scripts.COMB,
                "setLevels(6, 0, 40); greatestRate(0) = 60; setLevels(3, 0, 70); greatestRate(0) = 30");
        CHECK.run("17 limits without influence do not", Scripts.COMB,
                "setLevels(1, 0, 100); greatestRate(0) = 100; greatestRate(1) = 0");
        CHECK.run("17 floors do not bind", Scripts.COMB, Check.each("setLevels(#, 1000, 0)", 9),
                "greatestRate(0) = 100");
    }

    // Promise 18

    private static void greatestEqualFromZero() {
        CHECK.run("18 only the rate 0 is allowed", Scripts.COMB,
                "setLevels(0, 0, 100); greatestEqual(1) = 0; greatestEqual(511) = 0");
        CHECK.run("18 the rate 1 is just allowed", Scripts.COMB,
                "setLevels(6, 0, 94); greatestEqual(73) = 1; setLevels(6, 0, 95); greatestEqual(73) = 0");
        CHECK.run("18 one cell is as greatestRate", Scripts.COMB,
                "greatestEqual(1) = 100; greatestEqual(8) = 50; greatestEqual(64) = 33; greatestEqual(256) = 33");
    }

    private static void greatestEqualUpToThousand() {
        CHECK.run("18 1000 is just allowed", Scripts.COMB, Scripts.edges(1000), "greatestEqual(7) = 1000");
        CHECK.run("18 999 is just allowed", Scripts.COMB, Scripts.edges(1000),
                "setEdge(1, 999); greatestEqual(7) = 999; greatestEqual(5) = 1000");
        CHECK.run("18 not above 1000", Scripts.COMB, Scripts.edges(1000), Check.each("setRecharge(#, 1000)", 9),
                "greatestEqual(511) = 1000; greatestEqual(256) = 1000");
        CHECK.run("18 999 with all wells", Scripts.COMB, "setEdge(0, 1000); setEdge(1, 1000);",
                Check.each("setRecharge(#, 1000)", 9),
                "setEdge(2, 0); setLevels(2, 0, 3); greatestEqual(511) = 999; greatestEqual(219) = 1000");
    }

    private static void greatestEqualIsNone() {
        CHECK.run("18 NONE by a limit in the set", Scripts.COMB,
                "setLevels(0, 0, 101); greatestEqual(1) = -1; greatestEqual(511) = -1");
        CHECK.run("18 NONE by a limit outside the set", Scripts.COMB,
                "setLevels(8, 0, 101); greatestEqual(1) = -1; greatestEqual(255) = -1");
        CHECK.run("18 NONE by a well outside the set", Scripts.COMB,
                "setRate(8, 34); greatestEqual(1) = -1; greatestEqual(255) = -1; greatestEqual(256) = 33;",
                "greatestEqual(511) = 16");
    }

    private static void greatestEqualOfOthers() {
        CHECK.run("18 rates of the set do not count", Scripts.COMB, Check.each("setRate(#, 1000)", 9),
                "greatestEqual(511) = 16; greatestEqual(510) = -1");
        CHECK.run("18 all other rates being as they are", Scripts.COMB,
                "setRate(0, 40); greatestEqual(64) = 20; greatestEqual(65) = 25; greatestEqual(128) = 33");
        CHECK.run("18 the tightest cell decides", Scripts.COMB,
                "setEdge(1, 50); setEdge(2, 20); greatestEqual(1) = 100; greatestEqual(3) = 50;",
                "greatestEqual(7) = 20");
        CHECK.run("18 a cell counts once", Scripts.COMB,
                "greatestEqual(9) = 33; greatestEqual(72) = 20; greatestEqual(65) = 25; greatestEqual(73) = 16");
    }

    private static void greatestEqualOfEverySet() {
        String setting = "setLevels(4, 0, 60); setEdge(0, 900); setRate(7, 20); setLink(5, 0); setLink(2, 2)";
        Asked asked = Asked.grid().make(setting);
        Asked reference = Asked.reference().make(setting);
        for (int set = 1; set < 507; set++) {
            String call = "greatestEqual(" + set + ")";
            CHECK.due("18 every set: " + call, asked.answer(call), reference.answer(call));
        }
    }

    // Promise 19

    private static void bestPairFromZero() {
        CHECK.run("19 only the rates 0 are allowed", Scripts.COMB,
                "setLevels(0, 0, 100); setLevels(1, 0, 100); bestPair(0, 1) = 0; bestPair(4, 6) = 0");
        CHECK.run("19 only a can be above 0", Scripts.COMB, "setLevels(1, 0, 100); bestPair(0, 1) = 1000000");
        CHECK.run("19 only b can be above 0", Scripts.COMB, "setLevels(0, 0, 100); bestPair(0, 1) = 100");
        CHECK.run("19 the rates 1 and 1", Scripts.COMB,
                "setLevels(0, 0, 99); setLevels(1, 0, 99); bestPair(0, 1) = 10001");
    }

    private static void bestPairUpToThousand() {
        CHECK.run("19 both 1000, just allowed", Scripts.COMB, Scripts.edges(1000),
                "bestPair(0, 1) = 10001000; bestPair(1, 0) = 10001000");
        CHECK.run("19 a 999", Scripts.COMB, Scripts.edges(1000), "setEdge(0, 999); bestPair(0, 1) = 9991000");
        CHECK.run("19 b 999", Scripts.COMB, Scripts.edges(1000), "setEdge(1, 999); bestPair(0, 1) = 10000999");
        CHECK.run("19 not above 1000", Scripts.COMB, Scripts.edges(1000), Check.each("setRecharge(#, 1000)", 9),
                "bestPair(0, 1) = 10001000; bestPair(0, 3) = 10001000");
        CHECK.run("19 a 1000 and b 0", Scripts.COMB,
                "setEdge(0, 1000); setEdge(1, 0); bestPair(0, 1) = 10000000; bestPair(1, 0) = 1000");
    }

    private static void bestPairIsNone() {
        CHECK.run("19 NONE by the limit of a", Scripts.COMB, "setLevels(0, 0, 101); bestPair(0, 1) = -1");
        CHECK.run("19 NONE by the limit of b", Scripts.COMB, "setLevels(1, 0, 101); bestPair(0, 1) = -1");
        CHECK.run("19 NONE by the limit of another cell", Scripts.COMB, "setLevels(8, 0, 101); bestPair(0, 1) = -1");
        CHECK.run("19 NONE by a third well", Scripts.COMB,
                "setRate(8, 34); bestPair(0, 1) = -1; bestPair(8, 1) = 330100; bestPair(1, 8) = 1000033");
    }

    /** "allowed rates with the greatest sum, of several the ones with the smallest rate of well a" */
    private static void bestPairOfEqualSums() {
        String high = Scripts.COMB + "setEdge(0, 1000); setLevels(0, 0, 990);";
        CHECK.run("19 equal sums: a is 0", high,
                "bestPair(0, 3) = 10; bestPair(3, 0) = 10; bestPair(6, 3) = 10; bestPair(0, 6) = 10");
        String wide = Scripts.COMB + "setEdge(0, 1000); setRecharge(3, 1000); setLevels(0, 0, 500);";
        CHECK.run("19 equal sums: b is at 1000", wide, "bestPair(0, 3) = 5001000; bestPair(3, 0) = 5001000");
        CHECK.run("19 equal sums: a is 1", wide,
                "setLevels(0, 0, 999); bestPair(0, 3) = 11000; bestPair(3, 0) = 11000");
        CHECK.run("19 equal sums: a is 0 and b at 1000", wide,
                "setLevels(0, 0, 1000); bestPair(0, 3) = 1000; bestPair(3, 0) = 1000");
        CHECK.run("19 equal sums: a is 999", wide,
                "setLevels(0, 0, 1); bestPair(0, 3) = 9991000; bestPair(3, 0) = 9991000");
        CHECK.run("19 no equal sums: both at 1000", wide,
                "setLevels(0, 0, 0); bestPair(0, 3) = 10001000; bestPair(3, 0) = 10001000");
        CHECK.run("19 the greater sum goes before the smaller a", Scripts.COMB,
                "bestPair(0, 3) = 1000000; bestPair(3, 0) = 100; bestPair(6, 0) = 100");
        // Cell 6 falls by 2 for each unit of cell 3 and by 3 for each of its own; it may fall by 3, and then by 5.
        CHECK.run("19 equal sums by rounding", Scripts.COMB,
                "setLevels(6, 0, 97); bestPair(6, 3) = 1; bestPair(3, 6) = 1; setLevels(6, 0, 95);",
                "bestPair(6, 3) = 2; bestPair(3, 6) = 10001");
    }

    private static void bestPairOfOthers() {
        CHECK.run("19 rates of a and b do not count", Scripts.COMB,
                "setRate(0, 1000); setRate(1, 1000); bestPair(0, 1) = 1000100; bestPair(0, 2) = -1");
        CHECK.run("19 all other rates being as they are", Scripts.COMB,
                "setRate(3, 20); bestPair(0, 1) = 600100; bestPair(1, 6) = 1000020");
    }

    // All three

    private static void questionsChangeNoRate() {
        String[] calls = {"greatestRate(0)", "greatestRate(8)", "greatestEqual(1)", "greatestEqual(511)",
            "bestPair(0, 8)", "bestPair(8, 4)"};
        for (String call : calls) {
            Asked asked = Asked.grid().make("setRate(0, 7); setRate(8, 9); setLevels(4, 0, 90)");
            String before = asked.answer("digest()");
            String first = asked.answer(call);
            CHECK.due("17 to 19 change nothing: " + call, asked.answer("digest()"), before);
            CHECK.due("17 to 19 answer the same again: " + call, asked.answer(call), first);
            CHECK.due("17 to 19 leave the rates: " + call, asked.answer("setRate(0, 7)"), "7");
        }
    }

    /** What is found is set, and allowed; one more is not. */
    private static void whatIsFoundIsAllowed() {
        String setting = "setLevels(4, 0, 60); setLevels(0, 0, 71); setEdge(0, 300); setLink(13, 2); setRate(5, 11)";
        for (int cell = 0; cell < 9; cell++) {
            Asked asked = Asked.grid().make(setting);
            int rate = Integer.parseInt(asked.answer("greatestRate(" + cell + ")"));
            asked.make("setRate(" + cell + ", " + rate + ")");
            CHECK.due("17 what is found is allowed, cell " + cell, asked.answer("isAllowed()"), "true");
            asked.make("setRate(" + cell + ", " + (rate + 1) + ")");
            CHECK.due("17 one more is not, cell " + cell, asked.answer("isAllowed()"), "false");
            for (int other = 0; other < 9; other++) {
                if (other != cell) {
                    pairIsAllowed(setting, cell, other);
                }
            }
        }
        for (int set = 1; set < 512; set += 3) {
            equalIsAllowed(setting, set);
        }
    }

    private static void pairIsAllowed(String setting, int a, int b) {
        Asked asked = Asked.grid().make(setting);
        int pair = Integer.parseInt(asked.answer("bestPair(" + a + ", " + b + ")"));
        asked.make("setRate(" + a + ", " + pair / 10000 + "); setRate(" + b + ", " + pair % 10000 + ")");
        CHECK.due("19 what is found is allowed, " + a + " and " + b, asked.answer("isAllowed()"), "true");
        asked.make("setRate(" + b + ", " + (pair % 10000 + 1) + ")");
        CHECK.due("19 one more of b is not, " + a + " and " + b, asked.answer("isAllowed()"), "false");
        CHECK.due("19 as by trial, " + a + " and " + b, Integer.toString(pair),
                Asked.reference().make(setting).answer("bestPair(" + a + ", " + b + ")"));
    }

    private static void equalIsAllowed(String setting, int set) {
        Asked asked = Asked.grid().make(setting);
        int rate = Integer.parseInt(asked.answer("greatestEqual(" + set + ")"));
        for (int step = 0; step < 2; step++) {
            for (int cell = 0; cell < 9; cell++) {
                if ((set >> cell & 1) != 0) {
                    asked.make("setRate(" + cell + ", " + (rate + step) + ")");
                }
            }
            CHECK.due("18 what is found is allowed, one more is not, set " + set, asked.answer("isAllowed()"),
                    step == 0 ? "true" : "false");
        }
    }
}
