import java.io.IOException;
import java.nio.charset.StandardCharsets;
import java.nio.file.Files;
import java.nio.file.Path;
import java.util.ArrayList;
import java.util.List;
import java.util.Set;
import java.util.TreeSet;
import java.util.regex.Matcher;
import java.util.regex.Pattern;
import javax.tools.ToolProvider;

/** README.md: its lines of use answer as they say, and its table has each call of the face; run in the project's folder. */
public final class ReadmeTest extends Checks {
    // A call on a line of its own, its answer behind it, and after a comma what that means.
    private static final Pattern ASKED = Pattern.compile("(?:int (\\w+) = )?(yards\\.\\w+\\(.*\\)); +// (-?\\d+)(, .*)?");

    private static final List<String> CALLS = new ArrayList<>();
    private static final List<Long> WANTS = new ArrayList<>();

    public static void main(String[] args) throws Exception {
        String readme = Files.readString(Path.of("README.md"), StandardCharsets.UTF_8);
        linesOfUse(readme);
        tableOfCalls(readme);
        tests(readme);
        end();
    }

    private static void linesOfUse(String readme) throws Exception {
        about("README.md, lines of use");
        String source = exampleSource(between(readme, "```java\n", "```"));
        long[] got = answers(source);
        due("calls with an answer", got.length, WANTS.size());
        for (int i = 0; i < got.length; i++) due(CALLS.get(i), got[i], WANTS.get(i));
        for (String name : faceNames()) due("a line with " + name, source.contains("yards." + name + "(") ? 1 : 0, 1);
    }

    private static String between(String text, String from, String to) {
        int start = text.indexOf(from) + from.length();
        return text.substring(start, text.indexOf(to, start));
    }

    /** The lines as they stand, but each answer is put into a row. */
    private static String exampleSource(String lines) {
        StringBuilder source = new StringBuilder("public final class Example {\npublic static long[] answers() {\n");
        source.append("long[] row = new long[1000];\nint rowed = 0;\n");
        for (String line : lines.split("\n")) {
            Matcher asked = ASKED.matcher(line);
            if (asked.matches()) {
                CALLS.add(asked.group(2));
                WANTS.add(Long.parseLong(asked.group(3)));
                String name = asked.group(1);
                if (name != null) source.append("int ").append(name).append(" = ").append(asked.group(2)).append(";\n");
                source.append("row[rowed++] = ").append(name == null ? asked.group(2) : name).append(";\n");
            } else {
                due("an answer behind: " + line, line.startsWith("yards.") || line.startsWith("int ") ? 1 : 0, 0);
                source.append(line).append('\n');
            }
        }
        return source.append("return java.util.Arrays.copyOf(row, rowed);\n}\n}\n").toString();
    }

    /** Compiled beside the tests' own classes: that folder is there, and may be written. */
    private static long[] answers(String source) throws Exception {
        String folder = System.getProperty("java.class.path");
        Path file = Path.of(folder, "Example.java");
        try {
            Files.writeString(file, source);
            int code = ToolProvider.getSystemJavaCompiler().run(null, null, null, "-cp", folder, "-d", folder, file.toString());
            due("javac", code, 0);
            return (long[]) Class.forName("Example").getMethod("answers").invoke(null);
        } finally {
            Files.deleteIfExists(file);
            Files.deleteIfExists(Path.of(folder, "Example.class"));
        }
    }

    private static void tableOfCalls(String readme) throws IOException {
        about("README.md, the table of calls");
        Set<String> told = new TreeSet<>();
        Matcher row = Pattern.compile("(?m)^\\| (`[^|]*) \\|").matcher(between(readme, "### The calls", "### Refusals"));
        while (row.find()) {
            for (String call : row.group(1).split("`, `")) told.add(call.replace("`", ""));
        }
        due("calls of the face that the table lacks", lacking(face(), told), 0);
        due("calls of the table that the face lacks", lacking(told, face()), 0);
    }

    private static int lacking(Set<String> those, Set<String> in) {
        Set<String> left = new TreeSet<>(those);
        left.removeAll(in);
        if (!left.isEmpty()) System.out.println(left);
        return left.size();
    }

    /** The document's face: each call with the names of its numbers. */
    private static Set<String> face() throws IOException {
        String document = Files.readString(Path.of("../shared/DOC.md"), StandardCharsets.UTF_8);
        Set<String> face = new TreeSet<>();
        Matcher call = Pattern.compile("(?m)^    public (?:int|long) (\\w+)\\((.*)\\);$").matcher(document);
        while (call.find()) {
            face.add(call.group(1) + "(" + call.group(2).replaceAll("\\b(int|long|boolean) ", "") + ")");
        }
        return face;
    }

    private static Set<String> faceNames() throws IOException {
        Set<String> names = new TreeSet<>();
        for (String call : face()) names.add(call.substring(0, call.indexOf('(')));
        return names;
    }

    /** Each test class is told of, and each that is told of is there. */
    private static void tests(String readme) throws IOException {
        about("README.md, the tests");
        Set<String> told = new TreeSet<>();
        Matcher name = Pattern.compile("`(\\w+Test)`").matcher(readme.substring(readme.indexOf("## Tests")));
        while (name.find()) told.add(name.group(1));
        Set<String> there = new TreeSet<>();
        try (var files = Files.list(Path.of("src/test/java"))) {
            files.map(file -> file.getFileName().toString()).filter(file -> file.endsWith("Test.java"))
                .forEach(file -> there.add(file.replace(".java", "")));
        }
        due("tests that README.md lacks", lacking(there, told), 0);
        due("tests that are not there", lacking(told, there), 0);
        due(".ci/run is told of", readme.contains(".ci/run") ? 1 : 0, 1);
    }
}
