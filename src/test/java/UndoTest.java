import java.util.ArrayList;
import java.util.List;

/**
 * "Each successful call of a method whose description says "undoable" saves the state from before the call, even if the
 * call changes nothing; at most 4 states are saved, and the oldest is dropped first. The saved state contains
 * everything." And promise 23.
 */
public final class UndoTest {
    private static final String STATE = Scripts.STATE;
    private static final Check CHECK = new Check();

    public static void main(String[] args) {
        undoableCallsSave();
        callsThatChangeNothingSaveToo();
        otherCallsSaveNothing();
        atMostFour();
        oldestIsDroppedFirst();
        mostRecentIsRestored();
        undoIsNotUndoable();
        everythingIsRestored();
        everyValueIsRestored();
        savedStatesAreCopies();
        aFullRowOfAnyCalls();
        manyCalls();
        CHECK.finish();
    }

    private static void undoableCallsSave() {
        CHECK.run("2 setLink is undoable", "setLink(9, 2) = 1; undo() = 0; setLink(9, 0) = 1");
        CHECK.run("3 setEdge is undoable", "setEdge(9, 2) = 100; undo() = 0; setEdge(9, 0) = 100");
        CHECK.run("4 setRecharge is undoable", "setRecharge(7, 2) = 0; undo() = 0; setRecharge(7, 1) = 0");
        CHECK.run("5 setRate is undoable", "setRate(7, 2) = 0; undo() = 0; setRate(7, 1) = 0");
        CHECK.run("6 setLevels is undoable, the limit",
                "setLevels(7, 0, 101) = 0; undo() = 0; isAllowed() = true; setLevels(7, 0, 1) = 0");
        CHECK.run("6 setLevels is undoable, the floor", "setLevels(7, 101, 0) = 0; dry() = 128; undo() = 0; dry() = 0");
        CHECK.run("20 relax is undoable",
                "relax(1) = 72.265625; undo() = 0; relaxed(0) = 0.0; relaxed(8) = 0.0; relax(1) = 72.265625");
    }

    private static void callsThatChangeNothingSaveToo() {
        CHECK.run("2 setLink to the same value saves", "setLink(9, 1) = 1; undo() = 0;", "undo()" + STATE);
        CHECK.run("3 setEdge to the same value saves", "setEdge(9, 100) = 100; undo() = 0;", "undo()" + STATE);
        CHECK.run("4 setRecharge to the same value saves", "setRecharge(7, 0) = 0; undo() = 0;", "undo()" + STATE);
        CHECK.run("5 setRate to the same value saves", "setRate(7, 0) = 0; undo() = 0;", "undo()" + STATE);
        CHECK.run("6 setLevels to the same values saves", "setLevels(7, 0, 0) = 0; undo() = 0;", "undo()" + STATE);
        CHECK.run("20 relax without a sweep saves", "relax(0) = 0.0; undo() = 0;", "undo()" + STATE);
        CHECK.run("20 relax that moves nothing saves", Scripts.edges(0),
                "relax(5) = 0.0; undo() = 3; undo() = 2; undo() = 1; undo() = 0; setEdge(9, 7) = 100");
        CHECK.run("23 they push the oldest out too", "setRate(0, 1); setRate(0, 2); relax(0); relax(0); relax(0);",
                "undo() = 3; undo() = 2; undo() = 1; undo() = 0; setRate(0, 9) = 1");
    }

    private static void otherCallsSaveNothing() {
        String questions = "isLoose(); head(0, 0); flow(0, 0); inflow(0, 0); influence(0, 0, 0); drawdown(0, 0);"
                + "determinant(); extreme(true); extreme(false); dry(); isAllowed(); greatestRate(0); greatestEqual(1);"
                + "bestPair(0, 1); relaxed(0); error(); digest();";
        for (String question : questions.split(";")) {
            CHECK.run(question + " is not undoable", question + ";", "undo()" + STATE, "setRate(0, 5) = 0;",
                    question + ";", "undo() = 0; setRate(0, 6) = 0");
        }
    }

    private static void atMostFour() {
        for (int calls = 0; calls <= 7; calls++) {
            StringBuilder rows = new StringBuilder(Check.each("setRate(3, #)", calls));
            for (int left = Math.min(calls, 4); left > 0; left--) {
                rows.append("undo() = ").append(left - 1).append(';');
            }
            CHECK.run("23 after " + calls + " calls", rows.toString(), "undo()" + STATE, "undo()" + STATE);
        }
        CHECK.run("23 after an undo there is room for one more", Check.each("setRate(3, #)", 4), "undo() = 3;",
                "setRate(4, 1) = 0; undo() = 3; undo() = 2; undo() = 1; undo() = 0;", "undo()" + STATE);
    }

    private static void oldestIsDroppedFirst() {
        CHECK.run("23 four calls: back to the beginning", "setRate(3, 1); setRate(3, 2); setRate(3, 3); setRate(3, 4);",
                "undo() = 3; undo() = 2; undo() = 1; undo() = 0; drawdown(3, 0) = 0; setRate(3, 9) = 0");
        CHECK.run("23 five calls: back to the first",
                "setRate(3, 1); setRate(3, 2); setRate(3, 3); setRate(3, 4); setRate(3, 5);",
                "undo() = 3; undo() = 2; undo() = 1; undo() = 0; setRate(3, 9) = 1");
        CHECK.run("23 nine calls: back to the fifth",
                "setRate(3, 1); setRate(3, 2); setRate(3, 3); setRate(3, 4); setRate(3, 5);",
                "setRate(3, 6); setRate(3, 7); setRate(3, 8); setRate(3, 9); undo() = 3; undo() = 2; undo() = 1;",
                "undo() = 0;", "setRate(3, 10) = 5");
    }

    private static void mostRecentIsRestored() {
        CHECK.run("23 each undo goes one call back", Scripts.COMB,
                "setRate(0, 1); setRate(0, 2); setRate(0, 3); setRate(0, 4);",
                "head(0, 0) = 96; undo() = 3; head(0, 0) = 97; undo() = 2; head(0, 0) = 98; undo() = 1;",
                "head(0, 0) = 99;", "undo() = 0; head(0, 0) = 100;", "undo()" + STATE, "head(0, 0) = 100");
    }

    private static void undoIsNotUndoable() {
        CHECK.run("23 undo removes what it restores", "setRate(0, 1); setRate(0, 2); undo() = 1; undo() = 0;",
                "undo()" + STATE, "setRate(0, 3) = 0");
        CHECK.run("23 undo and call in turn",
                "setRate(0, 1) = 0; undo() = 0; setRate(0, 2) = 0; undo() = 0; setRate(0, 3) = 0;",
                "undo() = 0; setRate(0, 4) = 0; undo() = 0; setRate(0, 5) = 0; undo() = 0;", "undo()" + STATE);
        CHECK.run("23 a refused call between", "setRate(0, 1) = 0;", "setRate(0, 1001)" + Scripts.ARGUMENT,
                "undo() = 0;", "setRate(9, 1)" + Scripts.INDEX, "undo()" + STATE, "setRate(0, 2) = 0");
    }

    /** One call of each kind on a grid where every kind of value is set; undo brings the view of before. */
    private static void everythingIsRestored() {
        String[] calls = {"setLink(0, 2)", "setLink(5, 0)", "setLink(23, 0)", "setEdge(0, 0)", "setEdge(11, 1000)",
            "setRecharge(0, 1000)", "setRecharge(8, 0)", "setRate(0, 1000)", "setRate(8, 0)",
            "setLevels(0, 1000, 1000)", "setLevels(8, 0, 0)", "relax(0)", "relax(1)", "relax(100)"};
        for (String call : calls) {
            Asked asked = mixed();
            Asked twin = mixed();
            asked.make(call);
            CHECK.due("23 remain after " + call, asked.answer("undo()"), "3");
            CHECK.due("23 everything is as before " + call, asked.view(), twin.view());
        }
    }

    /** Three saved states, and no value as it was in the beginning. */
    private static Asked mixed() {
        Asked asked = Asked.grid();
        asked.each("setLink(#, 2)", 24).make("setLink(7, 1); setLink(8, 0)");
        asked.each("setEdge(#, 7#)", 12).each("setRecharge(#, 3#)", 9).each("setRate(#, 5#)", 9);
        asked.each("setLevels(#, 20#, 10#)", 9).make("relax(2); relax(1); undo()");
        return asked;
    }

    /** Each single value of the state is changed between a call and its undo. */
    private static void everyValueIsRestored() {
        List<String> calls = new ArrayList<>();
        for (int i = 0; i < 24; i++) {
            calls.add("setLink(" + i + ", " + (i == 7 ? 0 : 1) + ")");
        }
        for (int i = 0; i < 12; i++) {
            calls.add("setEdge(" + i + ", 987)");
        }
        for (int i = 0; i < 9; i++) {
            calls.add("setRecharge(" + i + ", 987)");
            calls.add("setRate(" + i + ", 987)");
            calls.add("setLevels(" + i + ", 987, 10" + i + ")");
            calls.add("setLevels(" + i + ", 20" + i + ", 987)");
        }
        Asked asked = mixed();
        String before = asked.answer("digest()");
        // The hash ends with the number of saved states, which is one more after any call.
        String unchanged = Long.toString(Long.parseLong(before) + 1);
        for (String call : calls) {
            asked.make(call);
            CHECK.due("24 " + call + " shows", asked.answer("digest()").equals(unchanged), false);
            CHECK.due("23 remain after " + call, asked.answer("undo()"), "3");
            CHECK.due("23 all is as before " + call, asked.answer("digest()"), before);
        }
    }

    /** What happens later must not reach into a saved state, nor what happens after its undo. */
    private static void savedStatesAreCopies() {
        CHECK.run("23 a saved state is not touched by later calls",
                "relax(1); setRate(4, 7); relax(3); setEdge(0, 0); relax(9);",
                "undo() = 3; undo() = 2; undo() = 1; undo() = 0; relaxed(0) = 50.0; relaxed(4) = 18.75;",
                "setRate(4, 0) = 0");
        CHECK.run("23 nor by calls after an undo",
                "setRate(4, 1); setRate(4, 2); setRate(4, 3); undo() = 2; setRate(4, 8) = 2;",
                "undo() = 2; setRate(4, 9) = 2; undo() = 2; undo() = 1; undo() = 0; setRate(4, 5) = 0");
        CHECK.run("23 relaxed heads of each state",
                "relax(1); relax(1); relax(1); relax(1); undo() = 3; undo() = 2; undo() = 1;",
                "relaxed(0) = 50.0; relaxed(4) = 18.75; relax(0) = 0.0; undo() = 1; undo() = 0; relaxed(0) = 0.0");
    }

    /** After each row of calls, all states that are due come back, and no other. */
    private static void aFullRowOfAnyCalls() {
        String[] calls = {"setLink(2, 0)", "setEdge(2, 50)", "setRecharge(2, 60)", "setRate(2, 70)",
            "setLevels(2, 80, 90)", "relax(2)", "setLink(2, 2)", "relax(0)", "setEdge(2, 50)", "setRate(2, 0)"};
        Asked asked = Asked.grid();
        asked.make(String.join(";", calls));
        for (int back = 1; back <= 4; back++) {
            CHECK.due("23 remain of a full row", asked.answer("undo()"), Integer.toString(4 - back));
            Asked twin = Asked.grid().make(String.join(";", List.of(calls).subList(0, calls.length - back)));
            // The twin has four saved states, so its digest is greater by what has been taken back.
            long want = Long.parseLong(twin.answer("digest()")) - back;
            CHECK.due("23 the state " + back + " calls before", asked.answer("digest()"), Long.toString(want));
        }
        CHECK.due("23 none remains", asked.answer("undo()"), "throws IllegalStateException");
    }

    /** "An object is used for at most 512 calls": up to the last one undo works. */
    private static void manyCalls() {
        Asked asked = Asked.grid();
        for (int i = 1; i <= 507; i++) {
            CHECK.due("23 call " + i, asked.answer("setRate(0, " + i + ")"), Integer.toString(i - 1));
        }
        for (int left = 3; left >= 0; left--) {
            CHECK.due("23 undo after many calls", asked.answer("undo()"), Integer.toString(left));
        }
        CHECK.due("23 the 512th call", asked.answer("setRate(0, 0)"), "503");
        Asked pushed = Asked.grid();
        pushed.make("relax(0)");
        for (int i = 0; i < 255; i++) {
            CHECK.due("23 call and undo in turn", pushed.answer("setEdge(5, " + i + ")"), "100");
            CHECK.due("23 one state is left", pushed.answer("undo()"), "1");
        }
        CHECK.due("23 the 512th call is an undo", pushed.answer("undo()"), "0");
    }
}
