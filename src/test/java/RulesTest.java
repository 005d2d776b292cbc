import java.io.IOException;
import java.lang.reflect.Field;
import java.lang.reflect.Method;
import java.lang.reflect.Modifier;
import java.nio.file.Files;
import java.nio.file.Path;
import java.util.ArrayList;
import java.util.LinkedHashMap;
import java.util.List;
import java.util.Map;
import java.util.Set;
import java.util.TreeSet;
import java.util.regex.Matcher;
import java.util.regex.Pattern;

/** What can be seen of the rules of the language, in the source and in the class; it is run in the root. */
public final class RulesTest {
    private static final Check CHECK = new Check();
    private static final int MOST_LINES = 60;
    private static final int MOST_PARAMETERS = 7;
    private static final int MOST_DEPTH = 8;
    private static final int MOST_CLASSES = 12;
    private static final int MOST_FIELDS = 20;

    // A method's body ends with a brace that stands as far in as its first line.
    private static final Pattern METHOD =
            Pattern.compile("(?ms)^( +)(?:[\\w\\[\\]]+ )*(\\w+)\\([^()]*\\)[\\w\\s,]*\\{\n(.*?)^\\1\\}");

    public static void main(String[] args) throws IOException {
        String text = Files.readString(Path.of("src", "main", "java", "HeadGrid.java"));
        String code = text.replaceAll("(?s)/\\*.*?\\*/", "").replaceAll("//[^\n]*", "");
        onlyAllowedWords(code);
        onlyAllowedLibrary(code);
        newOnlyInConstructorsAndThrows(code);
        CHECK.due("signs above 127", text.chars().filter(c -> c > 127).count(), 0);
        methodsAreShort(text.split("\n"));
        for (Class<?> type : classes()) {
            membersKeepTheRules(type);
        }
        callsGoNotDeep(code);
        CHECK.finish();
    }

    private static void onlyAllowedWords(String code) {
        for (String word : List.of("try", "catch", "finally", "assert", "synchronized", "package", "float", "Double",
                "Float", "Object", "var", "\\w+Exact", "->", "::", "protected", "volatile", "transient")) {
            String edge = Character.isLetter(word.charAt(0)) || word.startsWith("\\") ? "\\b" : "";
            CHECK.due("the word " + word, Pattern.compile(edge + word + edge).matcher(code).find(), false);
        }
    }

    private static void onlyAllowedLibrary(String code) {
        Matcher imports = Pattern.compile("import ([^;]*);").matcher(code);
        while (imports.find()) {
            CHECK.due("an import", imports.group(1), "java.util.Arrays");
        }
        Matcher calls = Pattern.compile("\\b([A-Z][a-z]\\w*\\.\\w+)").matcher(code.replaceAll("import [^;]*;", ""));
        List<String> allowed = List.of("Arrays.fill", "System.arraycopy", "Math.abs", "Math.max", "Math.min");
        while (calls.find()) {
            CHECK.due(calls.group(1) + " is of the library that is allowed", allowed.contains(calls.group(1)), true);
        }
    }

    /** So no call but one that throws makes an object. */
    private static void newOnlyInConstructorsAndThrows(String code) {
        Matcher found = Pattern.compile("([^\n]*)\\bnew (\\w+)").matcher(code);
        while (found.find()) {
            boolean thrown = found.group(1).trim().equals("throw");
            boolean own = List.of("State", "Solution", "int", "long", "double").contains(found.group(2));
            boolean kept = found.group(1).matches(" +\\w+(\\[i\\])? = ");
            CHECK.due("new " + found.group(2), thrown || own && kept, true);
        }
    }

    private static void methodsAreShort(String[] lines) {
        int start = 0;
        for (int i = 0; i < lines.length; i++) {
            if (lines[i].isBlank()) {
                start = i;
            }
            CHECK.due("line " + (i + 1) + " is within a short method", i - start <= MOST_LINES, true);
            CHECK.due("line " + (i + 1) + " is short", lines[i].length() <= 120, true);
        }
    }

    private static List<Class<?>> classes() {
        List<Class<?>> found = new ArrayList<>(List.of(HeadGrid.class.getDeclaredClasses()));
        for (Class<?> inside : found) {
            CHECK.due(inside + " is static", Modifier.isStatic(inside.getModifiers()), true);
            CHECK.due(inside + " is not shown", Modifier.isPublic(inside.getModifiers()), false);
            CHECK.due(inside + " has no classes inside", inside.getDeclaredClasses().length, 0);
        }
        found.add(HeadGrid.class);
        CHECK.due("the number of classes", found.size() <= MOST_CLASSES, true);
        return found;
    }

    private static void membersKeepTheRules(Class<?> type) {
        int fields = 0;
        for (Field field : type.getDeclaredFields()) {
            boolean constant = Modifier.isStatic(field.getModifiers());
            fields += constant ? 0 : 1;
            if (constant) {
                CHECK.due(field + " is final", Modifier.isFinal(field.getModifiers()), true);
                CHECK.due(field + " is of an allowed type", List.of("int", "long", "boolean", "char", "String",
                        "int[]", "long[]", "char[]", "byte[]").contains(field.getType().getSimpleName()), true);
            }
        }
        CHECK.due("the number of fields of " + type, fields <= MOST_FIELDS, true);
        Set<String> face = new TreeSet<>();
        for (Method method : HeadGrid.class.getMethods()) {
            face.add(method.getName());
        }
        for (Method method : type.getDeclaredMethods()) {
            CHECK.due("parameters of " + method, method.getParameterCount() <= MOST_PARAMETERS, true);
            if (!Modifier.isPublic(method.getModifiers())) {
                CHECK.due(method + " has a name of its own", face.contains(method.getName()), false);
            }
        }
    }

    /** No method calls itself, over others or not, and calls that stand open at once are few. */
    private static void callsGoNotDeep(String code) {
        Map<String, String> bodies = new LinkedHashMap<>();
        Matcher method = METHOD.matcher(code);
        while (method.find()) {
            bodies.put(method.group(2), method.group(3));
        }
        for (Class<?> type : classes()) {
            for (Method declared : type.getDeclaredMethods()) {
                CHECK.due("the source shows " + declared, bodies.containsKey(declared.getName()), true);
            }
        }
        for (String name : bodies.keySet()) {
            CHECK.due("calls below " + name, depthBelow(name, bodies, MOST_DEPTH + 1) <= MOST_DEPTH, true);
        }
    }

    private static int depthBelow(String name, Map<String, String> bodies, int left) {
        int deepest = 0;
        Matcher call = Pattern.compile("\\b(\\w+)\\(").matcher(bodies.get(name));
        while (left > 0 && call.find()) {
            if (bodies.containsKey(call.group(1))) {
                deepest = Math.max(deepest, depthBelow(call.group(1), bodies, left - 1));
            }
        }
        return deepest + 1;
    }
}
