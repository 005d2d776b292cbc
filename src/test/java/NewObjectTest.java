/** Promise 1, "Creates a grid with the initial values", and each "initially" of the description. */
public final class NewObjectTest {
    private static final Check CHECK = new Check();

    public static void main(String[] args) {
        CHECK.run("1 conductances are initially 1", Check.each("setLink(#, 0) = 1", 24));
        CHECK.run("1 heads of edge points are initially 100", Check.each("setEdge(#, 0) = 100", 12));
        CHECK.run("1 recharges are initially 0", Check.each("setRecharge(#, 5) = 0", 9));
        CHECK.run("1 rates are initially 0", Check.each("setRate(#, 5) = 0", 9));
        CHECK.run("1 limits are initially 0", Check.each("setLevels(#, 5, 5) = 0", 9));
        // Heads of 0 are not below floors of 0, and heads a little below 0 are.
        CHECK.run("1 floors are initially 0", Scripts.edges(0), "dry() = 0; setRate(4, 1); dry() = 511");
        CHECK.run("1 relaxed heads are initially 0.0", Check.each("relaxed(#) = 0.0", 9));
        CHECK.run("1 heads of a new object", Check.each("head(#, 0) = 100; head(#, 1) = 1", 9));
        CHECK.run("1 nothing flows in a new object", Check.each("flow(#, 0) = 0; flow(#, 1) = 1", 24),
                Check.each("inflow(#, 0) = 0; inflow(#, 1) = 1", 4));
        CHECK.run("1 no drawdown in a new object", Check.each("drawdown(#, 0) = 0; drawdown(#, 1) = 1", 9));
        CHECK.run("1 no state is saved", "undo()" + Scripts.STATE);
        CHECK.run("1 a new object is not loose, not dry, allowed", "isLoose() = false; dry() = 0; isAllowed() = true");
        CHECK.run("1 error of a new object", "error() = 100.0");
        CHECK.due("1 NONE is -1", HeadGrid.NONE, -1);
        objectsAreApart();
        CHECK.finish();
    }

    private static void objectsAreApart() {
        Asked first = Asked.grid();
        Asked untouched = Asked.grid();
        first.each("setLink(#, 2)", 24).each("setEdge(#, 5)", 12).each("setRecharge(#, 3)", 9).each("setRate(#, 1)", 9)
                .each("setLevels(#, 20, 30)", 9).make("relax(3); dry(); bestPair(0, 8)");
        Asked later = Asked.grid();
        CHECK.due("1 an object from before is as new", untouched.view(), Asked.reference().view());
        CHECK.due("1 an object from after is as new", later.view(), Asked.reference().view());
        CHECK.due("1 no state is saved elsewhere", untouched.answer("undo()"), "throws IllegalStateException");
        CHECK.due("1 four states are saved here", first.answer("undo()"), "3");
        untouched.make("setRate(8, 1000); relax(9)");
        CHECK.due("1 nor the other way round", later.view(), Asked.reference().view());
    }
}
