import java.lang.reflect.InvocationTargetException;
import java.lang.reflect.Method;
import java.nio.file.Files;
import java.nio.file.Path;
import java.util.ArrayList;
import java.util.List;
import java.util.Set;
import java.util.TreeSet;
import java.util.regex.Matcher;
import java.util.regex.Pattern;

/** What README.md says: its examples answer so, it names each call of the face, and just the tests there are. */
public final class ReadmeTest {
    private static final Pattern MADE = Pattern.compile("BellForWanted bell = new BellForWanted\\(\\);");
    private static final Pattern TOLD = Pattern.compile("tell\\(bell, \"([^\"]*)\"\\);");
    private static final Pattern ASKED =
        Pattern.compile("bell\\.(\\w+)\\(([^)]*)\\);\\s+// (-?\\d+|true|false)(:.*)?");
    private static final Path TESTS = Path.of("src/test/java");

    public static void main(String[] args) throws Exception {
        String readme = Files.readString(Path.of("README.md"));
        examples(readme);
        calls(readme);
        tests(readme);
        Check.ends();
    }

    private static void examples(String readme) throws Exception {
        BellForWanted bell = null;
        int answers = 0;
        for (String line : linesOfExamples(readme)) {
            Matcher told = TOLD.matcher(line);
            Matcher asked = ASKED.matcher(line);
            if (MADE.matcher(line).matches()) {
                bell = new BellForWanted();
            } else if (told.matches()) {
                Check.text(bell, told.group(1));
            } else if (asked.matches()) {
                Check.same(line, answer(bell, asked.group(1), asked.group(2)), asked.group(3));
                answers++;
            } else {
                Check.same("an example's line", line, "one that makes, tells or asks");
            }
        }
        Check.due("there are examples", answers > 20, true);
    }

    private static List<String> linesOfExamples(String readme) {
        List<String> lines = new ArrayList<>();
        Matcher block = Pattern.compile("(?s)```java\n(.*?)```").matcher(readme);
        while (block.find()) {
            lines.addAll(block.group(1).lines().toList());
        }
        return lines;
    }

    private static String answer(BellForWanted bell, String name, String arguments) throws Exception {
        List<Object> values = new ArrayList<>();
        for (String argument : arguments.isEmpty() ? new String[0] : arguments.split(", ")) {
            values.add(Integer.decode(argument));
        }
        for (Method m : BellForWanted.class.getMethods()) {
            if (m.getName().equals(name) && m.getParameterCount() == values.size()) {
                try {
                    return String.valueOf(m.invoke(bell, values.toArray()));
                } catch (InvocationTargetException e) {
                    return e.getCause().getClass().getSimpleName();
                }
            }
        }
        return "no such call";
    }

    private static void calls(String readme) {
        for (Method m : BellForWanted.class.getDeclaredMethods()) {
            if (java.lang.reflect.Modifier.isPublic(m.getModifiers())) {
                Check.due("README.md names " + m.getName(), readme.contains("`" + m.getName() + "`"), true);
            }
        }
    }

    private static void tests(String readme) throws Exception {
        Set<String> there = new TreeSet<>();
        try (var files = Files.list(TESTS)) {
            files.map(f -> f.getFileName().toString().replace(".java", "")).filter(n -> n.endsWith("Test"))
                .forEach(there::add);
        }
        Set<String> named = new TreeSet<>();
        Matcher m = Pattern.compile("\\b[A-Z]\\w*Test\\b").matcher(readme);
        while (m.find()) {
            named.add(m.group());
        }
        Check.same("the tests that README.md names", named.toString(), there.toString());
    }
}
