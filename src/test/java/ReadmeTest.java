import java.io.IOException;
import java.lang.reflect.Method;
import java.lang.reflect.Modifier;
import java.nio.file.Files;
import java.nio.file.Path;
import java.util.ArrayList;
import java.util.List;
import java.util.TreeSet;
import java.util.regex.Matcher;
import java.util.regex.Pattern;
import java.util.stream.Collectors;
import java.util.stream.Stream;

/** What README.md shows holds when it is done just so; from the project's folder, as README.md says. */
public final class ReadmeTest {
    private static final Path EXAMPLE = Path.of("src/example/java/Example.java");

    public static void main(String[] args) throws Exception {
        Check check = new Check("ReadmeTest");
        String page = Files.readString(Path.of("README.md"));
        example(check, page);
        commands(check, page);
        names(check, page);
        check.end();
    }

    private static void example(Check check, String page) throws IOException {
        List<String> code = blocks(page, "java");
        check.due("programs shown", code.size(), 1);
        check.holds("the program shown is " + EXAMPLE, code.contains(Files.readString(EXAMPLE)));
    }

    /** All commands but .ci/run, which runs this test; those of the example tell what is shown. */
    private static void commands(Check check, String page) throws Exception {
        List<String> commands = blocks(page, "sh");
        List<String> told = blocks(page, "text");
        check.due("groups of commands shown", commands.size(), 4);
        check.due("answers shown", told.size(), 1);
        for (int k = 0; k < commands.size(); k++) {
            if (commands.get(k).equals(".ci/run\n")) {
                check.holds(".ci/run can be run", Files.isExecutable(Path.of(".ci/run")));
                continue;
            }
            Process p = new ProcessBuilder("sh", "-e", "-c", commands.get(k))
                .redirectError(ProcessBuilder.Redirect.INHERIT).start();
            p.getOutputStream().close();
            String answer = new String(p.getInputStream().readAllBytes());
            check.due("exit code of " + commands.get(k), p.waitFor(), 0);
            check.holds("told: " + answer, k > 0 || told.contains(answer));
        }
    }

    private static void names(Check check, String page) throws IOException {
        TreeSet<String> calls = new TreeSet<>();
        for (Method m : HookBoxes.class.getDeclaredMethods()) {
            if (Modifier.isPublic(m.getModifiers())) {
                calls.add(m.getName());
            }
        }
        check.holds("all calls are named, and no others: " + calls,
            calls.equals(firstColumn(page, "| calls ")));
        try (Stream<Path> files = Files.list(Path.of("src/test/java"))) {
            TreeSet<String> tests = files.map(f -> f.getFileName().toString().replace(".java", ""))
                .filter(n -> n.endsWith("Test")).collect(Collectors.toCollection(TreeSet::new));
            check.holds("all tests are named, and no others: " + tests, tests.equals(firstColumn(page, "| test ")));
        }
    }

    private static List<String> blocks(String page, String language) {
        List<String> found = new ArrayList<>();
        Matcher m = Pattern.compile("(?ms)^```" + language + "\n(.*?)^```$").matcher(page);
        while (m.find()) {
            found.add(m.group(1));
        }
        return found;
    }

    /** The names in the first column of the table with this head. */
    private static TreeSet<String> firstColumn(String page, String head) {
        TreeSet<String> found = new TreeSet<>();
        int from = page.indexOf("\n" + head) + 1;
        for (String row : page.substring(from).split("\n")) {
            if (!row.startsWith("|")) {
                break;
            }
            Matcher m = Pattern.compile("`(\\w+)`").matcher(row.split("\\|")[1]);
            while (m.find()) {
                found.add(m.group(1));
            }
        }
        return found;
    }
}
