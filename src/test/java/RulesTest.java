import java.io.IOException;
import java.nio.file.Files;
import java.nio.file.Path;
import java.util.regex.Matcher;
import java.util.regex.Pattern;

/** What of LANGUAGE.md can be seen from the class's text alone. */
public final class RulesTest {
    private static final int MOST_LINES = 60;
    private static final int MOST_PARAMETERS = 7;
    private static final int MOST_CLASSES = 12;
    private static final Pattern METHOD = Pattern.compile("^( +)[^=;.{}\n]*\\b(\\w+)\\(([^()]*)\\) \\{$", Pattern.MULTILINE);

    private static int wrong = 0;

    private static void fault(int rule, String what) {
        wrong++;
        System.out.println("rule " + rule + ": " + what);
    }

    private static void hasNo(String code, int rule, String pattern) {
        Matcher m = Pattern.compile(pattern).matcher(code);
        while (m.find()) {
            fault(rule, "'" + m.group() + "' stands in the class");
        }
    }

    private static int count(String code, String pattern) {
        return (int) Pattern.compile(pattern).matcher(code).results().count();
    }

    private static void methodsAreSmall(String code) {
        Matcher m = METHOD.matcher(code);
        int found = 0;
        while (m.find()) {
            String name = m.group(2);
            if (name.equals("if") || name.equals("for") || name.equals("while") || name.equals("switch")) {
                continue;
            }
            found++;
            int end = code.indexOf("\n" + m.group(1) + "}", m.end());
            if (code.substring(m.start(), end).lines().count() + 1 > MOST_LINES) {
                fault(11, name + " is too long");
            }
            if (m.group(3).split(",").length > MOST_PARAMETERS) {
                fault(11, name + " takes too many parameters");
            }
        }
        // The face alone has 28 methods and a constructor; fewer were not looked at.
        if (found < 29) {
            fault(11, "only " + found + " methods were found");
        }
    }

    public static void main(String[] args) throws IOException {
        String text = Files.readString(Path.of("src/main/java/CharRows.java"));
        String code = text.replaceAll("(?s)/\\*.*?\\*/", "").replaceAll("//[^\n]*", "");
        hasNo(code, 1, "(?m)^package\\b");
        hasNo(code, 2, "->|::|@\\w+");
        hasNo(code, 4, "import (?!java\\.util\\.(Arrays|ArrayList|List|Iterator);)[^;]*;");
        hasNo(code, 4, "(?<!import )\\bjava\\.\\w+");
        hasNo(code, 4, "\\bSystem\\.(?!arraycopy\\()\\w+");
        hasNo(code, 4, "\\bArrays\\.(?!copyOf\\(|copyOfRange\\(|fill\\()\\w+(?=\\()");
        hasNo(code, 4, "\\b\\w+Exact\\(");
        hasNo(code, 5, "\\bstatic \\{");
        hasNo(code, 5, "\\bstatic (?!final\\b)[^(){};]*[;=]");
        // The document names no exception, so the class throws none and has none to catch.
        hasNo(code, 6, "\\b(throw|throws|try|catch|finally|synchronized|assert|hashCode)\\b");
        hasNo(code, 13, "\\b(Thread|Random|Runtime|Process|native|volatile)\\b");
        if (count(code, "\\b(class|enum|interface|record) \\w+[^;(]*\\{") > MOST_CLASSES) {
            fault(11, "too many classes");
        }
        methodsAreSmall(code);
        System.out.println(wrong == 0 ? "the rules hold" : wrong + " faults against the rules");
        if (wrong != 0) {
            System.exit(1);
        }
    }
}
