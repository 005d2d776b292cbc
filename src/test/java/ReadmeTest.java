import java.io.IOException;
import java.lang.reflect.Method;
import java.lang.reflect.Modifier;
import java.nio.file.Files;
import java.nio.file.Path;
import java.util.ArrayList;
import java.util.List;
import java.util.regex.Matcher;
import java.util.regex.Pattern;

/** What README.md says: the answers behind its calls, its drawing, a row for every call; it is run in the root. */
public final class ReadmeTest {
    private static final Check CHECK = new Check();

    // "grid.call(..); // answer: more words"
    private static final Pattern ROW = Pattern.compile("grid\\.(\\w+\\([^)]*\\));\\s*// ([^:]+)(:.*)?");

    public static void main(String[] args) throws IOException {
        String text = Files.readString(Path.of("README.md"));
        int runs = 0;
        for (String block : blocks(text, "java")) {
            runs++;
            CHECK.run("README.md, run " + runs, rowsOf(block));
        }
        CHECK.due("README.md has runs", runs > 0, true);
        CHECK.due("README.md's drawing", tokensOf(blocks(text, "text").get(0)), placesInOrder());
        callsAreNamed(text);
        testsAreNamed(text);
        CHECK.finish();
    }

    private static List<String> blocks(String text, String kind) {
        List<String> found = new ArrayList<>();
        Matcher block = Pattern.compile("(?s)```" + kind + "\n(.*?)```").matcher(text);
        while (block.find()) {
            found.add(block.group(1));
        }
        return found;
    }

    /** Every row but the first, which makes the object, must be a call with its answer. */
    private static String rowsOf(String block) {
        StringBuilder rows = new StringBuilder();
        String[] lines = block.split("\n");
        CHECK.due("README.md, a run begins with a new object", lines[0], "HeadGrid grid = new HeadGrid();");
        for (int i = 1; i < lines.length; i++) {
            Matcher row = ROW.matcher(lines[i]);
            CHECK.due("README.md, \"" + lines[i] + "\" has an answer", row.matches(), true);
            if (row.matches()) {
                rows.append(row.group(1)).append(" = ").append(row.group(2)).append(';');
            }
        }
        return rows.toString();
    }

    private static List<String> tokensOf(String drawing) {
        List<String> tokens = new ArrayList<>();
        Matcher token = Pattern.compile("[pcl]\\d+").matcher(drawing);
        while (token.find()) {
            tokens.add(token.group());
        }
        return tokens;
    }

    /** The places of the grid as the document numbers them, line by line from north to south. */
    private static List<String> placesInOrder() {
        List<String> places = new ArrayList<>();
        for (int row = -1; row <= 3; row++) {
            for (int place = -1; place <= 3 && row >= 0 && row < 3; place++) {
                places.add(place < 0 ? "p" + (9 + row) : place > 2 ? "p" + (3 + row) : "c" + (3 * row + place));
                if (place < 3) {
                    places.add("l" + (4 * row + place + 1));
                }
            }
            for (int column = 0; column < 3 && (row < 0 || row > 2); column++) {
                places.add("p" + (row < 0 ? column : 6 + column));
            }
            for (int column = 0; column < 3 && row < 3; column++) {
                places.add("l" + (12 + 4 * column + row + 1));
            }
        }
        return places;
    }

    private static void callsAreNamed(String text) {
        for (Method method : HeadGrid.class.getDeclaredMethods()) {
            if (Modifier.isPublic(method.getModifiers())) {
                int parameters = method.getParameterCount();
                String names = parameters == 0 ? "" : "\\w+" + ", \\w+".repeat(parameters - 1);
                Pattern row = Pattern.compile("\\| `" + method.getName() + "\\(" + names + "\\)` \\|");
                CHECK.due("README.md has a row for " + method.getName(), row.matcher(text).find(), true);
            }
        }
    }

    private static void testsAreNamed(String text) throws IOException {
        try (var files = Files.list(Path.of("src", "test", "java"))) {
            for (Path file : files.sorted().toList()) {
                String name = file.getFileName().toString().replace(".java", "");
                if (name.endsWith("Test")) {
                    CHECK.due("README.md says what " + name + " does", text.contains("- `" + name + "`: "), true);
                }
            }
        }
    }
}
