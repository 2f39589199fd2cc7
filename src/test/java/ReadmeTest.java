import java.io.IOException;
import java.lang.reflect.Method;
import java.nio.file.Files;
import java.nio.file.Path;
import java.util.HashSet;
import java.util.Set;
import java.util.regex.Matcher;
import java.util.regex.Pattern;

/** The calls that README.md shows answer what it says, and it leaves out no call and no test. */
public final class ReadmeTest {
    private static final Pattern CALL = Pattern.compile("rows\\.(\\w+)\\(([^)]*)\\);\\s*// (-?\\d+)\\b.*");
    private static final Pattern NEW_OBJECT = Pattern.compile("CharRows rows = new CharRows\\(\\);.*");
    private static int wrong = 0;

    private static void fault(String what) {
        wrong++;
        System.out.println(what);
    }

    private static int answerOf(CharRows rows, String name, String list) throws ReflectiveOperationException {
        String[] given = list.isBlank() ? new String[0] : list.split(",");
        Object[] arguments = new Object[given.length];
        for (int k = 0; k < given.length; k++) {
            arguments[k] = Integer.valueOf(given[k].trim());
        }
        for (Method m : CharRows.class.getMethods()) {
            if (m.getName().equals(name) && m.getParameterCount() == given.length) {
                return (Integer) m.invoke(rows, arguments);
            }
        }
        throw new NoSuchMethodException(name);
    }

    private static int callsTried(Iterable<String> lines) throws ReflectiveOperationException {
        CharRows rows = null;
        int tried = 0;
        for (String line : lines) {
            if (NEW_OBJECT.matcher(line).matches()) {
                rows = new CharRows();
            }
            Matcher call = CALL.matcher(line);
            if (call.matches()) {
                tried++;
                int got = answerOf(rows, call.group(1), call.group(2));
                if (got != Integer.parseInt(call.group(3))) {
                    fault("README.md: " + line + ", but it answered " + got);
                }
            }
        }
        return tried;
    }

    private static void namesEveryCall(String readme) {
        Set<String> names = new HashSet<>();
        for (Method m : CharRows.class.getDeclaredMethods()) {
            if (java.lang.reflect.Modifier.isPublic(m.getModifiers())) {
                names.add(m.getName());
            }
        }
        for (String name : names) {
            if (!readme.contains("| `" + name + "(")) {
                fault("README.md has no row for " + name);
            }
        }
    }

    private static void namesEveryTest(String readme) throws IOException {
        try (java.nio.file.DirectoryStream<Path> tests = Files.newDirectoryStream(Path.of("src/test/java"))) {
            for (Path test : tests) {
                String name = test.getFileName().toString().replace(".java", "");
                if (!readme.contains("`" + name + "`")) {
                    fault("README.md does not name " + name);
                }
            }
        }
    }

    public static void main(String[] args) throws IOException, ReflectiveOperationException {
        Path readme = Path.of("README.md");
        int tried = callsTried(Files.readAllLines(readme));
        if (tried == 0) {
            fault("README.md shows no call");
        }
        namesEveryCall(Files.readString(readme));
        namesEveryTest(Files.readString(readme));
        System.out.println(wrong == 0 ? tried + " calls of README.md are as it says" : wrong + " faults of README.md");
        if (wrong != 0) {
            System.exit(1);
        }
    }
}
