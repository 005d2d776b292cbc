import java.io.IOException;
import java.nio.file.Files;
import java.nio.file.Path;
import java.util.List;
import java.util.regex.Matcher;
import java.util.regex.Pattern;

/** What can be seen in the source of the rules of the language; it is run in the root of the project. */
public final class RulesTest {
    private static final Check CHECK = new Check();
    private static final int MOST_LINES = 60;

    public static void main(String[] args) throws IOException {
        String text = Files.readString(Path.of("src", "main", "java", "HeadGrid.java"));
        String code = text.replaceAll("(?s)/\\*.*?\\*/", "").replaceAll("//[^\n]*", "");
        onlyAllowedWords(code);
        onlyAllowedLibrary(code);
        newOnlyInConstructorsAndThrows(code);
        CHECK.due("signs above 127", text.chars().filter(c -> c > 127).count(), 0);
        methodsAreShort(text.split("\n"));
        CHECK.finish();
    }

    private static void onlyAllowedWords(String code) {
        for (String word : List.of("try", "catch", "finally", "assert", "synchronized", "package", "float", "Double",
                "Float", "Object", "var", "\\w+Exact", "->", "::", "protected", "volatile", "transient")) {
            String edge = Character.isLetter(word.charAt(0)) || word.startsWith("\\") ? "\\b" : "";
            CHECK.due("the word " + word, Pattern.compile(edge + word + edge).matcher(code).find(), false);
        }
    }

    private static void onlyAllowedLibrary(String code) {
        Matcher imports = Pattern.compile("import ([^;]*);").matcher(code);
        while (imports.find()) {
            CHECK.due("an import", imports.group(1), "java.util.Arrays");
        }
        Matcher calls = Pattern.compile("\\b([A-Z][a-z]\\w*\\.\\w+)").matcher(code.replaceAll("import [^;]*;", ""));
        List<String> allowed = List.of("Arrays.fill", "System.arraycopy", "Math.abs", "Math.max", "Math.min");
        while (calls.find()) {
            CHECK.due(calls.group(1) + " is of the library that is allowed", allowed.contains(calls.group(1)), true);
        }
    }

    /** So no call but one that throws makes an object. */
    private static void newOnlyInConstructorsAndThrows(String code) {
        Matcher found = Pattern.compile("([^\n]*)\\bnew (\\w+)").matcher(code);
        while (found.find()) {
            boolean thrown = found.group(1).trim().equals("throw");
            boolean own = List.of("State", "Solution", "int", "long", "double").contains(found.group(2));
            boolean kept = found.group(1).matches(" +\\w+(\\[i\\])? = ");
            CHECK.due("new " + found.group(2), thrown || own && kept, true);
        }
    }

    private static void methodsAreShort(String[] lines) {
        int start = 0;
        for (int i = 0; i < lines.length; i++) {
            if (lines[i].isBlank()) {
                start = i;
            }
            CHECK.due("line " + (i + 1) + " is within a short method", i - start <= MOST_LINES, true);
            CHECK.due("line " + (i + 1) + " is short", lines[i].length() <= 120, true);
        }
    }
}
