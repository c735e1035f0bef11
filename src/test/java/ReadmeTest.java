import java.io.IOException;
import java.lang.reflect.Method;
import java.lang.reflect.Modifier;
import java.nio.charset.StandardCharsets;
import java.nio.file.Files;
import java.nio.file.Path;
import java.util.ArrayList;
import java.util.Arrays;
import java.util.List;
import java.util.Set;
import java.util.TreeSet;
import java.util.regex.Matcher;
import java.util.regex.Pattern;
import java.util.stream.Collectors;
import java.util.stream.Stream;

/** README.md names the calls, the classes and the tests that there are, and no others. Runs where README.md lies. */
public final class ReadmeTest {
    private static final Pattern NAME = Pattern.compile("`(\\w+)(?:\\([\\w, ]*\\))?`");

    private static Check check = new Check("README.md");

    public static void main(String[] args) throws IOException {
        String text = Files.readString(Path.of("README.md"), StandardCharsets.UTF_8);
        calls(text);
        refusals(text);
        named("the classes inside", section(text, "## How it is built"), classesInside());
        Set<String> due = sources();
        Set<String> tests = names(section(text, "## How to run its tests"));
        tests.removeAll(callNames());
        tests.removeAll(Arrays.asList("javac", "java"));
        check.sentence("how to run its tests");
        check.due("the tests and what they share", tests, due);
        check.done();
    }

    private static void calls(String text) {
        check.sentence("how to use the class: each kind of call");
        Set<String> told = names(section(text, "## How to use it"));
        for (String call : callNames()) {
            check.due(call + " is told of", told.contains(call), true);
        }
    }

    /** Each call's row names just the exceptions that its face names. */
    private static void refusals(String text) {
        check.sentence("What is refused");
        List<String> rows = Arrays.asList(section(text, "### What is refused").split("\n"));
        for (Method m : face()) {
            Set<String> due = new TreeSet<>();
            for (Class<?> e : m.getExceptionTypes()) {
                due.add(e.getSimpleName());
            }
            Set<String> told = new TreeSet<>();
            for (String row : rows) {
                String[] cells = row.split("\\|");
                if (cells.length == 3 && names(cells[1]).contains(m.getName())) {
                    told.addAll(names(cells[2]));
                }
            }
            check.due("what " + m.getName() + " throws", told, due);
        }
    }

    private static void named(String what, String section, Set<String> due) {
        check.sentence(what);
        check.due(what, names(section), due);
    }

    /** From a heading to the next one of its kind or of a higher one. */
    private static String section(String text, String heading) {
        int from = text.indexOf("\n" + heading);
        check.due(heading + " is there", from >= 0, true);
        if (from < 0) {
            return "";
        }
        int behind = from + 1 + heading.length();
        int end = text.indexOf("\n## ", behind);
        int inner = heading.startsWith("###") ? text.indexOf("\n### ", behind) : -1;
        if (inner >= 0 && (end < 0 || inner < end)) {
            end = inner;
        }
        return end < 0 ? text.substring(behind) : text.substring(behind, end);
    }

    private static Set<String> names(String text) {
        Set<String> names = new TreeSet<>();
        for (Matcher m = NAME.matcher(text); m.find();) {
            names.add(m.group(1));
        }
        return names;
    }

    private static List<Method> face() {
        List<Method> face = new ArrayList<>();
        for (Method m : NumberText.class.getDeclaredMethods()) {
            if (Modifier.isPublic(m.getModifiers())) {
                face.add(m);
            }
        }
        return face;
    }

    private static Set<String> callNames() {
        return face().stream().map(Method::getName).collect(Collectors.toCollection(TreeSet::new));
    }

    private static Set<String> classesInside() {
        return Arrays.stream(NumberText.class.getDeclaredClasses()).map(Class::getSimpleName)
            .collect(Collectors.toCollection(TreeSet::new));
    }

    private static Set<String> sources() throws IOException {
        try (Stream<Path> files = Files.list(Path.of("src/test/java"))) {
            return files.map(file -> file.getFileName().toString()).filter(file -> file.endsWith(".java"))
                .map(file -> file.replace(".java", "")).collect(Collectors.toCollection(TreeSet::new));
        }
    }
}
