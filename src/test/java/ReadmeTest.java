import java.io.IOException;
import java.nio.file.Files;
import java.nio.file.Path;
import java.util.List;
import java.util.regex.Matcher;
import java.util.regex.Pattern;
import java.util.spi.ToolProvider;

/**
 * What README.md shows of the class in use answers as README.md says: its Java is made a program, in
 * which each line whose comment begins with an answer is a call that is compared with it.
 */
public final class ReadmeTest {
    private static final Pattern ANSWERED =
            Pattern.compile("(?:int (\\w+) = )?(x\\.\\w+\\([^;]*\\)); *// (-?\\d+|true|false)\\b.*");
    private static final Pattern CALLED = Pattern.compile("\\bx\\.(\\w+)\\(");
    private static final String SHOWN = "ReadmeShown";
    private static final String[] FACE = {"feed", "submit", "tick", "done", "type", "process", "job",
        "paper", "word", "frame", "about", "octet"};

    private int answers;

    public static void main(String[] args) throws Exception {
        List<String> lines = Files.readAllLines(Path.of("README.md"));
        ReadmeTest test = new ReadmeTest();
        String program = test.program(lines);
        Bench.due("answers that README.md tells, some", test.answers >= 20, true);
        namesOfTheFace(String.join("\n", lines));
        Bench.due("the shown compiles", compiles(program), true);
        Class.forName(SHOWN).getMethod("main", String[].class).invoke(null, (Object) args);
        Bench.finish();
    }

    /** Each call of the face has its row in README.md, and what is called there is of the face. */
    private static void namesOfTheFace(String text) {
        for (String name : FACE) {
            Bench.due("README.md tells " + name, text.contains("| `" + name + "("), true);
        }
        Matcher m = CALLED.matcher(text);
        while (m.find()) {
            Bench.due("of the face: " + m.group(1), List.of(FACE).contains(m.group(1)), true);
        }
    }

    private String program(List<String> lines) {
        StringBuilder text = new StringBuilder("public final class " + SHOWN
                + " {\n  public static void main(String[] args) {\n");
        boolean inside = false;
        for (String line : lines) {
            if (line.equals("```java")) {
                inside = true;
                text.append("    {\n");
            } else if (line.equals("```") && inside) {
                inside = false;
                text.append("    }\n");
            } else if (inside) {
                text.append(statement(line)).append('\n');
            }
        }
        return text.append("  }\n}\n").toString();
    }

    private String statement(String line) {
        Matcher m = ANSWERED.matcher(line);
        if (!m.matches()) {
            return line;
        }
        answers++;
        String name = m.group(1);
        String first = name == null ? "" : "int " + name + " = " + m.group(2) + "; ";
        String value = name == null ? m.group(2) : name;
        String what = line.replace("\\", "\\\\").replace("\"", "\\\"");
        return first + "Bench.due(\"" + what + "\", " + value + ", " + m.group(3) + ");";
    }

    private static boolean compiles(String program) throws IOException {
        String classes = System.getProperty("java.class.path");
        Path source = Path.of(classes).resolve(SHOWN + ".java");
        Files.writeString(source, program);
        ToolProvider javac = ToolProvider.findFirst("javac").orElseThrow();
        return javac.run(System.out, System.err, "-cp", classes, "-d", classes, source.toString()) == 0;
    }
}
