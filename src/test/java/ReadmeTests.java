import java.io.ByteArrayOutputStream;
import java.io.File;
import java.io.PrintStream;
import java.lang.reflect.Method;
import java.lang.reflect.Modifier;
import java.util.TreeSet;
import java.util.regex.Matcher;
import java.util.regex.Pattern;

/** What README.md says: its example, the calls and the tests that it names. */
final class ReadmeTests {
    static void all() {
        String page = Check.text("README.md");
        example(page);
        calls(page);
        tests(page);
    }

    private static void example(String page) {
        Check.that("readme: the example", block(page, "java"), Check.text("src/test/java/ReadmeExample.java"));
        Check.that("readme: what it prints", block(page, "text"), printed());
    }

    private static String block(String page, String language) {
        Matcher matcher = Pattern.compile("\n```" + language + "\n(.*?)```\n", Pattern.DOTALL).matcher(page);
        return matcher.find() ? matcher.group(1) : "nothing";
    }

    private static String printed() {
        PrintStream before = System.out;
        ByteArrayOutputStream bytes = new ByteArrayOutputStream();
        System.setOut(new PrintStream(bytes, true));
        try {
            ReadmeExample.main(new String[0]);
        } finally {
            System.setOut(before);
        }
        return bytes.toString().replace("\r\n", "\n");
    }

    // Each call stands in one row of the page's table.
    private static void calls(String page) {
        TreeSet<String> due = new TreeSet<>();
        for (Method method : BackupPlanner.class.getDeclaredMethods()) {
            if (Modifier.isPublic(method.getModifiers())) {
                due.add(method.getName());
            }
        }
        TreeSet<String> got = new TreeSet<>();
        for (String line : page.split("\n")) {
            if (line.startsWith("| ")) {
                addMatches(got, "`(\\w+)`", line);
            }
        }
        Check.that("readme: the calls", got, due);
    }

    private static void tests(String page) {
        TreeSet<String> due = new TreeSet<>();
        for (String name : new File(Check.PROJECT, "src/test/java").list()) {
            due.add(name.replace(".java", ""));
        }
        TreeSet<String> got = new TreeSet<>();
        addMatches(got, "`([A-Z][a-zA-Z]+)`", page.substring(page.indexOf("## Tests") + 1));
        Check.that("readme: the tests", got, due);
    }

    private static void addMatches(TreeSet<String> names, String pattern, String text) {
        Matcher matcher = Pattern.compile(pattern).matcher(text);
        while (matcher.find()) {
            names.add(matcher.group(1));
        }
    }

    private ReadmeTests() {
    }
}
