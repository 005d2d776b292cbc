import java.util.Objects;

/** Counts and prints the answers that are not the ones that are due. */
final class Check {
    interface Call {
        Object answer();
    }

    private int wrong = 0;
    private int count = 0;

    /** The answer of a call, or "throws " with the name of the exception's class. */
    static Object outcome(Call call) {
        try {
            return call.answer();
        } catch (RuntimeException e) {
            return "throws " + e.getClass().getSimpleName();
        }
    }

    /** Numbers are compared as longs, doubles by their bits. */
    void due(String what, Object got, Object want) {
        count++;
        if (!Objects.equals(plain(got), plain(want))) {
            wrong++;
            System.out.println(what + " answered " + got + ", due is " + want);
        }
    }

    void call(String what, Call call, Object want) {
        due(what, outcome(call), want);
    }

    void index(String what, Call call) {
        call(what, call, "throws IndexOutOfBoundsException");
    }

    void argument(String what, Call call) {
        call(what, call, "throws IllegalArgumentException");
    }

    void arithmetic(String what, Call call) {
        call(what, call, "throws ArithmeticException");
    }

    /**
     * A run of calls on a new object, written as in the document: "call = answer; call = answer". The reference makes
     * the same run, so that a wrong answer that is due here shows.
     */
    void run(String sentence, String... rows) {
        play(sentence, Asked.grid(), rows);
        play(sentence + " [reference]", Asked.reference(), rows);
    }

    private void play(String sentence, Asked asked, String[] rows) {
        for (String row : String.join(";", rows).split(";")) {
            if (row.isBlank()) {
                continue;
            }
            String[] sides = row.split("=");
            String answer = asked.answer(sides[0].trim());
            String want = sides.length > 1 ? sides[1].trim() : answer.startsWith("throws") ? "no exception" : answer;
            due(sentence + ": " + sides[0].trim(), answer, want);
        }
    }

    /** Rows of a run for 0 to count - 1, which stand where the pattern has "#". */
    static String each(String pattern, int count) {
        StringBuilder rows = new StringBuilder();
        for (int i = 0; i < count; i++) {
            rows.append(pattern.replace("#", Integer.toString(i))).append(';');
        }
        return rows.toString();
    }

    int wrong() {
        return wrong;
    }

    void finish() {
        System.out.println(count + " answers looked at, " + wrong + " wrong");
        if (wrong != 0) {
            System.exit(1);
        }
    }

    private static Object plain(Object value) {
        return value instanceof Integer ? Long.valueOf((Integer) value) : value;
    }
}
