import java.lang.reflect.InvocationTargetException;
import java.lang.reflect.Method;
import java.util.ArrayList;
import java.util.List;

/** A grid, or the reference, that is asked by calls written as in the document's examples: "setEdge(0, 200)". */
final class Asked {
    private static final int MOST_CALLS = 512;

    private final Object grid;
    private int calls = 0;

    private Asked(Object grid) {
        this.grid = grid;
    }

    static Asked grid() {
        return new Asked(new HeadGrid());
    }

    static Asked reference() {
        return new Asked(new ReferenceGrid());
    }

    /** The answer as text, or "throws " with the name of the exception's class. */
    String answer(String call) {
        calls++;
        if (calls > MOST_CALLS) {
            throw new AssertionError("the document promises nothing beyond the 512th call");
        }
        int open = call.indexOf('(');
        Method method = methodNamed(call.substring(0, open).trim());
        Object[] arguments = arguments(method, call.substring(open + 1, call.lastIndexOf(')')));
        try {
            return String.valueOf(method.invoke(grid, arguments));
        } catch (InvocationTargetException e) {
            return "throws " + nameOf(e.getCause());
        } catch (IllegalAccessException e) {
            throw new AssertionError(e);
        }
    }

    /** Makes calls whose answers are not looked at, "#" standing for 0 to count - 1 in turn. */
    Asked each(String pattern, int count) {
        for (int i = 0; i < count; i++) {
            make(pattern.replace("#", Integer.toString(i)));
        }
        return this;
    }

    /** Makes calls, parted by ";", whose answers are not looked at, but that must not throw. */
    Asked make(String list) {
        for (String call : list.split(";")) {
            String answer = answer(call.trim());
            if (answer.startsWith("throws")) {
                throw new AssertionError(call + " " + answer);
            }
        }
        return this;
    }

    /** The answers of the methods that show all of the state, some of them in another way than the others. */
    List<String> view() {
        List<String> answers = new ArrayList<>();
        for (String call : new String[] {"isLoose()", "determinant()", "dry()", "isAllowed()", "extreme(true)",
                "extreme(false)", "greatestRate(4)", "drawdown(4, 0)", "error()", "digest()"}) {
            answers.add(call + " = " + answer(call));
        }
        for (int cell = 0; cell < 9; cell++) {
            for (String pattern : new String[] {"head(%d, 0)", "head(%d, 1)", "relaxed(%d)"}) {
                String call = String.format(pattern, cell);
                answers.add(call + " = " + answer(call));
            }
        }
        return answers;
    }

    private Method methodNamed(String name) {
        for (Method method : grid.getClass().getDeclaredMethods()) {
            if (method.getName().equals(name)) {
                return method;
            }
        }
        throw new AssertionError("no method " + name);
    }

    private static Object[] arguments(Method method, String text) {
        String[] words = text.isBlank() ? new String[0] : text.split(",");
        Class<?>[] types = method.getParameterTypes();
        if (words.length != types.length) {
            throw new AssertionError(method.getName() + "(" + text + ") has the wrong number of arguments");
        }
        Object[] values = new Object[words.length];
        for (int i = 0; i < words.length; i++) {
            String word = words[i].trim();
            values[i] = types[i] == boolean.class ? (Object) Boolean.valueOf(word) : (Object) Integer.valueOf(word);
        }
        return values;
    }

    /** The machine's own exceptions are told apart from those that code throws, also where the class is the same. */
    private static String nameOf(Throwable thrown) {
        boolean byDivision = "/ by zero".equals(thrown.getMessage());
        return (byDivision ? "the machine's " : "") + thrown.getClass().getSimpleName();
    }
}
