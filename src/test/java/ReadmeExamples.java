import java.io.IOException;
import java.nio.charset.StandardCharsets;
import java.nio.file.Files;
import java.nio.file.Path;
import java.util.ArrayList;
import java.util.List;
import java.util.function.Supplier;
import java.util.regex.Matcher;
import java.util.regex.Pattern;

/**
 * Makes a test of the examples in README.md, so that what it says is what the class does.
 * The first argument is README.md, the second the file to write.
 */
public final class ReadmeExamples {
    /** A call, and behind it what it answers: a number, a text, or what it throws; more may follow behind a comma. */
    private static final Pattern CALL =
        Pattern.compile("(\\S.*);\\s+// (-?\\d+|0x[0-9a-f]+|\".*\"|throws \\w+)(, .*)?");

    private final StringBuilder helpers = new StringBuilder();
    private final StringBuilder steps = new StringBuilder();
    private int calls = 0;

    public static void main(String[] args) throws IOException {
        Path written = Path.of(args[1]);
        String name = written.getFileName().toString().replace(".java", "");
        ReadmeExamples examples = new ReadmeExamples();
        for (List<String> block : blocks(Files.readAllLines(Path.of(args[0]), StandardCharsets.UTF_8))) {
            examples.add(block);
        }
        Files.writeString(written, examples.test(name), StandardCharsets.UTF_8);
    }

    private static List<List<String>> blocks(List<String> lines) {
        List<List<String>> blocks = new ArrayList<>();
        boolean inside = false;
        for (String line : lines) {
            if (line.equals("```java")) {
                blocks.add(new ArrayList<>());
                inside = true;
            } else if (line.startsWith("```")) {
                inside = false;
            } else if (inside) {
                blocks.get(blocks.size() - 1).add(line);
            }
        }
        return blocks;
    }

    /** A block is helpers, or steps with an object of their own. */
    private void add(List<String> block) {
        if (block.get(0).startsWith("static")) {
            block.forEach(line -> helpers.append("    ").append(line).append('\n'));
            return;
        }
        steps.append("        {\n");
        block.forEach(line -> steps.append("            ").append(step(line)).append('\n'));
        steps.append("        }\n");
    }

    private String step(String line) {
        if (!line.contains("// ")) {
            return line;
        }
        Matcher m = CALL.matcher(line);
        if (!m.matches()) {
            throw new IllegalArgumentException("README.md tells no answer that can be looked at: " + line);
        }
        calls++;
        return "check.due(" + quoted(m.group(1)) + ", ReadmeExamples.answer(() -> " + m.group(1) + "), " + due(m.group(2))
            + ");";
    }

    private static String due(String written) {
        if (written.startsWith("\"")) {
            return written;
        }
        return written.startsWith("throws ") ? quoted(written) : written + "L";
    }

    private static String quoted(String s) {
        return "\"" + s.replace("\\", "\\\\").replace("\"", "\\\"") + "\"";
    }

    private String test(String name) {
        if (calls == 0) {
            throw new IllegalArgumentException("README.md has no examples");
        }
        return "public final class " + name + " {\n"
            + helpers
            + "    public static void main(String[] args) {\n"
            + "        Check check = new Check(\"Examples\");\n"
            + "        check.sentence(\"README.md\");\n"
            + steps
            + "        check.done();\n"
            + "    }\n"
            + "}\n";
    }

    /** Whole numbers of any kind as longs, texts as they are, exceptions as they are written in README.md. */
    static Object answer(Supplier<Object> call) {
        try {
            Object got = call.get();
            return got instanceof Integer ? Long.valueOf((Integer) got) : got;
        } catch (RuntimeException e) {
            return "throws " + e.getClass().getSimpleName();
        }
    }
}
