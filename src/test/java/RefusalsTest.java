import java.util.ArrayList;
import java.util.List;

/**
 * "A call that throws an exception changes nothing. If several exceptions apply, the one that is listed first is
 * thrown." Each row of "Throws", alone and together with the others, with 0 to 4 saved states, on a grid that is loose
 * and on one that is not; then the object must answer as its twin does, which never got the refused call.
 */
public final class RefusalsTest {
    private static final String INDEX = "IndexOutOfBoundsException";
    private static final String ARGUMENT = "IllegalArgumentException";
    private static final String ARITHMETIC = "ArithmeticException";
    private static final String STATE = "IllegalStateException";
    private static final int MOST_SAVED = 4;
    private static final Check CHECK = new Check();

    /** A call, and what it throws on a grid that is not loose and on one that is; null if it answers there. */
    private record Row(String call, String tight, String loose) {
    }

    public static void main(String[] args) {
        for (Row row : rows()) {
            for (int saved = 0; saved <= MOST_SAVED; saved++) {
                if (row.tight() != null) {
                    refused(row.call(), row.tight(), saved, false);
                }
                if (row.loose() != null) {
                    refused(row.call(), row.loose(), saved, true);
                }
            }
        }
        refused("undo()", STATE, 0, false);
        refused("undo()", STATE, 0, true);
        answeredThoughLoose();
        CHECK.finish();
    }

    private static List<Row> rows() {
        List<Row> rows = new ArrayList<>();
        settings(rows, "setLink(%s, %s)", 24, "2", "3");
        settings(rows, "setEdge(%s, %s)", 12, "7", "1001");
        settings(rows, "setRecharge(%s, %s)", 9, "7", "1001");
        settings(rows, "setRate(%s, %s)", 9, "7", "1001");
        settings(rows, "setLevels(%s, %s, 7)", 9, "7", "1001");
        settings(rows, "setLevels(%s, 7, %s)", 9, "7", "1001");
        settings(rows, "setLevels(%s, -1, %s)", 9, "1001", "-1");
        fractions(rows, "head(%s, %s)", 9);
        fractions(rows, "flow(%s, %s)", 24);
        fractions(rows, "inflow(%s, %s)", 4);
        fractions(rows, "influence(%s, 8, %s)", 9);
        fractions(rows, "influence(8, %s, %s)", 9);
        fractions(rows, "influence(9, %s, %s)", 0);
        fractions(rows, "drawdown(%s, %s)", 9);
        for (String call : new String[] {"extreme(true)", "extreme(false)", "dry()", "isAllowed()", "error()",
                "greatestRate(0)", "greatestRate(8)", "greatestEqual(1)", "greatestEqual(511)", "bestPair(0, 8)",
                "bestPair(8, 0)"}) {
            rows.add(new Row(call, null, ARITHMETIC));
        }
        for (String call : new String[] {"greatestRate(-1)", "greatestRate(9)", "bestPair(-1, 0)", "bestPair(9, 0)",
                "bestPair(0, -1)", "bestPair(0, 9)", "bestPair(9, 9)", "bestPair(-1, -1)", "relaxed(-1)",
                "relaxed(9)"}) {
            rows.add(new Row(call, INDEX, INDEX));
        }
        for (String call : new String[] {"greatestEqual(0)", "greatestEqual(512)", "greatestEqual(-1)",
                "bestPair(0, 0)", "bestPair(8, 8)", "relax(-1)", "relax(101)"}) {
            rows.add(new Row(call, ARGUMENT, ARGUMENT));
        }
        return rows;
    }

    /** The index is listed before the value, and neither of them depends on whether the grid is loose. */
    private static void settings(List<Row> rows, String pattern, int count, String good, String above) {
        for (String index : outside(count)) {
            for (String value : new String[] {good, "-1", above}) {
                rows.add(new Row(String.format(pattern, index, value), INDEX, INDEX));
            }
        }
        for (String index : inside(count)) {
            for (String value : new String[] {"-1", above}) {
                rows.add(new Row(String.format(pattern, index, value), ARGUMENT, ARGUMENT));
            }
        }
    }

    /** The index is listed before the part, and the part before the loose grid. */
    private static void fractions(List<Row> rows, String pattern, int count) {
        for (String index : outside(count)) {
            for (String part : new String[] {"0", "1", "-1", "2"}) {
                rows.add(new Row(String.format(pattern, index, part), INDEX, INDEX));
            }
        }
        for (String index : inside(count)) {
            for (String part : new String[] {"-1", "2"}) {
                rows.add(new Row(String.format(pattern, index, part), ARGUMENT, ARGUMENT));
            }
            for (String part : new String[] {"0", "1"}) {
                rows.add(new Row(String.format(pattern, index, part), null, ARITHMETIC));
            }
        }
    }

    private static String[] outside(int count) {
        return new String[] {Scripts.LEAST, "-1", Integer.toString(count), Scripts.MOST};
    }

    private static String[] inside(int count) {
        return count == 0 ? new String[0] : new String[] {"0", Integer.toString(count - 1)};
    }

    private static void refused(String call, String exception, int saved, boolean loose) {
        String name = call + (loose ? ", loose, " : ", ") + saved + " saved";
        Asked asked = prepared(saved, loose);
        Asked twin = prepared(saved, loose);
        CHECK.due(name, asked.answer(call), "throws " + exception);
        CHECK.due(name + ", again", asked.answer(call), "throws " + exception);
        CHECK.due(name + " changes nothing", asked.view(), twin.view());
        for (int i = saved; i > 0; i--) {
            CHECK.due(name + ", then undo", asked.answer("undo()"), Integer.toString(i - 1));
            twin.make("undo()");
            CHECK.due(name + " changes no saved state", asked.view(), twin.view());
        }
        CHECK.due(name + " saves nothing", asked.answer("undo()"), "throws " + STATE);
        CHECK.due(name + ", then a call that is taken", asked.answer("setRate(0, 9)"), "3");
        CHECK.due(name + ", then its undo", asked.answer("undo()"), "0");
    }

    /** A grid with so many saved states, all of them different, and something in each kind of value. */
    private static Asked prepared(int saved, boolean loose) {
        Asked asked = Asked.grid();
        asked.make("setEdge(0, 200); setRate(0, 3); setRecharge(8, 5); setLevels(4, 101, 97); relax(2)");
        if (loose) {
            asked.make("setLink(5, 0); setLink(6, 0); setLink(17, 0); setLink(18, 0)");
        }
        asked.make("setRate(1, 1); setEdge(3, 7); relax(1); setLink(0, 2)");
        for (int i = MOST_SAVED; i > saved; i--) {
            asked.make("undo()");
        }
        return asked;
    }

    /** "Methods that need exact heads throw an ArithmeticException if the grid is loose": the others answer. */
    private static void answeredThoughLoose() {
        CHECK.run("7 isLoose answers on a loose grid", Scripts.LOOSE, "isLoose() = true");
        CHECK.run("13 determinant answers on a loose grid", Scripts.LOOSE, "determinant() = 0");
        CHECK.run("20 relax answers on a loose grid", Scripts.LOOSE, "relax(0) = 0.0; relax(1) = 77.08333333333333");
        CHECK.run("21 relaxed answers on a loose grid", Scripts.LOOSE, "relaxed(4) = 0.0");
        CHECK.run("24 digest answers on a loose grid", Scripts.LOOSE, "digest()");
        CHECK.run("23 undo answers on a loose grid", Scripts.LOOSE, "undo() = 3; isLoose() = false");
        CHECK.run("2 to 6: settings are taken on a loose grid", Scripts.LOOSE,
                "setEdge(11, 0) = 100; setRecharge(4, 1) = 0; setRate(4, 3) = 0; setLevels(4, 3, 4) = 0;",
                "setLink(5, 2) = 0; isLoose() = false; flow(5, 0) = 2; flow(5, 1) = 1");
    }
}
