import java.io.IOException;
import java.lang.reflect.Method;
import java.lang.reflect.Modifier;
import java.nio.file.Files;
import java.nio.file.Path;
import java.util.Arrays;
import java.util.List;
import java.util.regex.Matcher;
import java.util.regex.Pattern;

/** README.md tells the truth: its example answers as it says, its helper is the tests' own, it lists every call and test. */
public final class ReadmeTest {
    private static final Desk DESK = new Desk("ReadmeTest");
    private static final Pattern SAID = Pattern.compile("say\\(m, \"(.*)\"\\);");
    private static final Pattern CALLED = Pattern.compile("m\\.(\\w+)\\(([-\\d, ]*)\\); +// (-?\\d+)\\b.*");
    private static final Pattern LISTED = Pattern.compile("\\| `(\\w+)\\(([\\w, ]*)\\)` \\|.*");
    private static final int LEAST_CALLS = 30;

    public static void main(String[] args) throws IOException {
        List<String> lines = Files.readAllLines(Path.of("README.md"));
        playExample(lines);
        compareHelper(String.join("\n", lines));
        listCalls(lines);
        listTests(String.join("\n", lines));
        DESK.close();
    }

    private static void playExample(List<String> lines) {
        MondayMaps m = null;
        int calls = 0;
        for (String line : lines) {
            Matcher said = SAID.matcher(line);
            Matcher called = CALLED.matcher(line);
            if (line.equals("MondayMaps m = new MondayMaps();")) {
                m = new MondayMaps();
            } else if (m != null && said.matches()) {
                Desk.say(m, said.group(1));
            } else if (m != null && called.matches()) {
                DESK.due(line, Scene.call(m, called.group(1), numbers(called.group(2))), Integer.parseInt(called.group(3)));
                calls++;
            } else {
                DESK.holds("'" + line + "' has no answer behind it, which", !line.startsWith("m."));
            }
        }
        DESK.holds("the example has " + calls + " calls, which", calls >= LEAST_CALLS);
    }

    private static int[] numbers(String list) {
        return list.isEmpty() ? new int[0] : Arrays.stream(list.split(", ")).mapToInt(Integer::parseInt).toArray();
    }

    /** The helper that is shown is the one by which all tests feed their texts. */
    private static void compareHelper(String readme) throws IOException {
        String desk = Files.readString(Path.of("src/test/java/Desk.java"));
        int from = desk.indexOf("    static void say(");
        int to = desk.indexOf("\n    }\n", from);
        DESK.holds("Desk.say is there, which", from >= 0 && to > from);
        String helper = desk.substring(from, to + "\n    }".length()).replaceAll("(?m)^ {4}", "");
        DESK.holds("the helper is as in Desk.java, which", readme.contains("\n" + helper + "\n"));
    }

    private static void listCalls(List<String> lines) {
        int listed = 0;
        for (String line : lines) {
            Matcher m = LISTED.matcher(line);
            if (m.matches()) {
                listed++;
                int parameters = m.group(2).isEmpty() ? 0 : m.group(2).split(", ").length;
                DESK.holds(m.group(1) + " is a call with as many arguments, which",
                    Arrays.stream(MondayMaps.class.getDeclaredMethods()).anyMatch(d -> Modifier.isPublic(d.getModifiers())
                        && d.getName().equals(m.group(1)) && d.getParameterCount() == parameters));
            }
        }
        long there = Arrays.stream(MondayMaps.class.getDeclaredMethods()).map(Method::getModifiers)
            .filter(Modifier::isPublic).count();
        DESK.due("calls listed", listed, (int) there);
    }

    private static void listTests(String readme) throws IOException {
        try (var files = Files.list(Path.of("src/test/java"))) {
            files.map(f -> f.getFileName().toString()).filter(f -> f.endsWith("Test.java")).forEach(f ->
                DESK.holds(f + " is named, which", readme.contains("`" + f.replace(".java", "") + "`")));
        }
    }
}
