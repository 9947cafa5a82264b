import java.lang.reflect.Method;
import java.nio.file.DirectoryStream;
import java.nio.file.Files;
import java.nio.file.Path;
import java.util.List;
import java.util.Set;
import java.util.TreeSet;
import java.util.regex.Matcher;
import java.util.regex.Pattern;

/**
 * What README.md shows is so: its calls answer what stands behind them, of the class and of the
 * model, which tells the document a second time; none is left out; and its tests are there.
 */
public final class ReadmeTests {
    private static final String MAKING = "PageOwners x = new PageOwners();";
    private static final Pattern CALL =
            Pattern.compile("x\\.(\\w+)\\(([^()]*)\\); +// (-?\\d+|true|false)(:.*)?");

    public static void main(String[] args) throws Exception {
        Due.by("README.md", "");
        List<String> readme = Files.readAllLines(Path.of("README.md"));
        List<String> example = between(readme, "```java", "```");
        Due.is("an object is made first", example.get(0).startsWith(MAKING) ? 1 : 0, 1);
        List<String> behindMaking = example.subList(1, example.size());
        Set<String> shown = calls("the class", behindMaking, new Real());
        calls("the model", behindMaking, new Model());
        for (Method m : Pages.class.getDeclaredMethods()) {
            Due.is(m.getName() + " is shown", shown.contains(m.getName()) ? 1 : 0, 1);
        }
        testsAreThere(readme);
        Due.end("readme");
    }

    private static List<String> between(List<String> lines, String first, String last) {
        int start = lines.indexOf(first) + 1;
        List<String> rest = lines.subList(start, lines.size());
        int end = rest.indexOf(last);
        if (start == 0 || end < 1) {
            throw new IllegalStateException("README.md has no example");
        }
        return rest.subList(0, end);
    }

    /** Makes the calls in their order; the names of all that were made. */
    private static Set<String> calls(String who, List<String> example, Pages x) throws Exception {
        Set<String> made = new TreeSet<>();
        for (String line : example) {
            Matcher call = CALL.matcher(line);
            if (call.matches()) {
                long due = number(call.group(3));
                Due.is(line + " of " + who, answer(x, call.group(1), call.group(2)), due);
                made.add(call.group(1));
            } else {
                boolean isText = line.isEmpty() || line.startsWith("// ");
                Due.is("can be read: " + line, isText ? 1 : 0, 1);
            }
        }
        return made;
    }

    private static long answer(Pages x, String name, String told) throws Exception {
        String[] parts = told.isEmpty() ? new String[0] : told.split(", ");
        for (Method m : Pages.class.getDeclaredMethods()) {
            if (m.getName().equals(name) && m.getParameterCount() == parts.length) {
                Object[] given = new Object[parts.length];
                for (int k = 0; k < parts.length; k++) {
                    boolean isLong = m.getParameterTypes()[k] == long.class;
                    given[k] = isLong ? (Object) Long.valueOf(parts[k])
                            : (Object) Integer.valueOf(parts[k]);
                }
                return number(m.invoke(x, given).toString());
            }
        }
        throw new IllegalStateException("README.md shows " + name + ", which the face has not");
    }

    private static long number(String told) {
        return told.equals("true") ? 1 : told.equals("false") ? 0 : Long.parseLong(told);
    }

    private static void testsAreThere(List<String> readme) throws Exception {
        Due.is("the command that runs the tests", readme.contains("    .ci/run") ? 1 : 0, 1);
        Due.is(".ci/run can be run", Files.isExecutable(Path.of(".ci/run")) ? 1 : 0, 1);
        String all = String.join("\n", readme);
        try (DirectoryStream<Path> tests = Files.newDirectoryStream(Path.of("src/test/java"))) {
            for (Path test : tests) {
                Due.is(test + " is named", all.contains("`" + test + "`") ? 1 : 0, 1);
            }
        }
        Matcher named = Pattern.compile("`(src/[^`]*)`").matcher(all);
        while (named.find()) {
            Due.is(named.group(1) + " is there", Files.exists(Path.of(named.group(1))) ? 1 : 0, 1);
        }
    }
}
