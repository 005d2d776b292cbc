import java.lang.reflect.Constructor;
import java.lang.reflect.Field;
import java.lang.reflect.Method;
import java.lang.reflect.Modifier;
import java.util.Arrays;
import java.util.List;
import java.util.TreeSet;

/** The class shows the document's face, with the exceptions that it lists, and nothing else. */
public final class FaceTest {
    private static final String I = "IndexOutOfBoundsException";
    private static final String A = "IllegalArgumentException";
    private static final String M = "ArithmeticException";

    private static final List<String> FACE = List.of(
            "int setLink(int,int) " + I + "," + A,
            "int setEdge(int,int) " + I + "," + A,
            "int setRecharge(int,int) " + I + "," + A,
            "int setRate(int,int) " + I + "," + A,
            "int setLevels(int,int,int) " + I + "," + A,
            "boolean isLoose() ",
            "long head(int,int) " + I + "," + A + "," + M,
            "long flow(int,int) " + I + "," + A + "," + M,
            "long inflow(int,int) " + I + "," + A + "," + M,
            "long influence(int,int,int) " + I + "," + A + "," + M,
            "long drawdown(int,int) " + I + "," + A + "," + M,
            "long determinant() ",
            "int extreme(boolean) " + M,
            "int dry() " + M,
            "boolean isAllowed() " + M,
            "int greatestRate(int) " + I + "," + M,
            "int greatestEqual(int) " + A + "," + M,
            "int bestPair(int,int) " + I + "," + A + "," + M,
            "double relax(int) " + A,
            "double relaxed(int) " + I,
            "double error() " + M,
            "int undo() IllegalStateException",
            "long digest() ");

    public static void main(String[] args) {
        Check check = new Check();
        check.due("public and final", HeadGrid.class.getModifiers(), Modifier.PUBLIC | Modifier.FINAL);
        check.due("the methods", methods(), new TreeSet<>(FACE));
        check.due("the constructors", constructors(), new TreeSet<>(List.of("public HeadGrid()")));
        check.due("the fields", fields(), new TreeSet<>(List.of("public static final int HeadGrid.NONE")));
        check.due("NONE", HeadGrid.NONE, -1);
        check.finish();
    }

    private static TreeSet<String> methods() {
        TreeSet<String> found = new TreeSet<>();
        for (Method m : HeadGrid.class.getDeclaredMethods()) {
            if (Modifier.isPrivate(m.getModifiers())) {
                continue;
            }
            String flags = m.getModifiers() == Modifier.PUBLIC ? "" : "not plainly public: ";
            found.add(flags + m.getReturnType() + " " + m.getName() + "(" + names(m.getParameterTypes()) + ") "
                    + names(m.getExceptionTypes()));
        }
        return found;
    }

    private static String names(Class<?>[] types) {
        return String.join(",", Arrays.stream(types).map(Class::getSimpleName).toList());
    }

    private static TreeSet<String> constructors() {
        TreeSet<String> found = new TreeSet<>();
        for (Constructor<?> c : HeadGrid.class.getDeclaredConstructors()) {
            found.add(c.toString());
        }
        return found;
    }

    private static TreeSet<String> fields() {
        TreeSet<String> found = new TreeSet<>();
        for (Field f : HeadGrid.class.getDeclaredFields()) {
            if (!Modifier.isPrivate(f.getModifiers())) {
                found.add(f.toString());
            }
        }
        return found;
    }
}
