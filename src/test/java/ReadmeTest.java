import java.io.IOException;
import java.lang.reflect.Method;
import java.lang.reflect.Modifier;
import java.nio.file.Files;
import java.nio.file.Path;
import java.util.Set;
import java.util.TreeSet;
import java.util.regex.Matcher;
import java.util.regex.Pattern;
import java.util.stream.Stream;

/** What README.md says is so: its examples answer as it tells, and it names all calls and all tests. */
public final class ReadmeTest extends Checks {
    private static final Path README = Path.of("README.md");
    private static final Path TESTS = Path.of("src/test/java");
    private static final Pattern STATEMENT = Pattern.compile("(?:\\w+ \\w+ = )?x\\.(\\w+)\\((.*?)\\);\\s*// (.*)");
    private static final int BYTES_FED = 20;

    private ReadmeTest() {
    }

    public static void main(String[] args) throws IOException {
        begin("README.md");
        String readme = Files.readString(README);
        exampleText(block(readme, "text"));
        exampleCalls(block(readme, "java"));
        callsNamed(readme);
        testsNamed(readme);
        end("README.md tells what is so");
    }

    private static String block(String readme, String language) {
        Matcher m = Pattern.compile("```" + language + "\n(.*?)```", Pattern.DOTALL).matcher(readme);
        if (!m.find()) {
            fail("it has no example in " + language);
            return "";
        }
        return m.group(1);
    }

    /** A line feed is no blank: the example is a swap only without those that it is shown with. */
    private static void exampleText(String text) {
        due("the example told in one line", Driver.tell(new SqueezedSwap(), text.replace("\n", "")), 2);
        faulty(text, 1, text.indexOf('\n'));
    }

    private static void exampleCalls(String code) {
        SqueezedSwap x = new SqueezedSwap();
        int calls = 0;
        for (String line : code.split("\n")) {
            Matcher m = STATEMENT.matcher(line);
            if (m.matches()) {
                exampleCall(x, m.group(1), numbers(m.group(2)), m.group(3));
                calls++;
            } else if (!line.equals("SqueezedSwap x = new SqueezedSwap();")) {
                fail("the example has what isn't understood: " + line);
            }
        }
        due("whether the example has calls", calls > 0, true);
    }

    private static void exampleCall(SqueezedSwap x, String name, int[] args, String comment) {
        int got = Driver.call(x, name, args);
        if (name.equals("feed")) {
            // The blanks that fill a feed up need not be shown.
            String shown = comment.replaceAll("^\"|\"$", "").stripTrailing();
            due("whether what is fed is " + comment, shown.equals(bytesOf(args).stripTrailing()), true);
            due("how many bytes come", got % BYTES_FED, 0);
            return;
        }
        String told = comment.replaceAll(":.*", "");
        due(name + " in the example", got, told.matches("true|false") ? (told.equals("true") ? 1 : 0)
            : Integer.parseInt(told));
        due("trouble() behind " + name + " in the example", x.trouble(), 0);
    }

    private static int[] numbers(String args) {
        return args.isEmpty() ? new int[0] : Stream.of(args.split(", ")).mapToInt(Integer::decode).toArray();
    }

    private static String bytesOf(int[] args) {
        StringBuilder text = new StringBuilder();
        for (int number : args) {
            for (int shift = 24; shift >= 0; shift -= 8) {
                text.append((char) (number >>> shift & 255));
            }
        }
        return text.toString();
    }

    private static void callsNamed(String readme) {
        for (Method m : SqueezedSwap.class.getDeclaredMethods()) {
            if (Modifier.isPublic(m.getModifiers())) {
                due("whether it names " + m.getName(), readme.contains("`" + m.getName() + "`"), true);
            }
        }
    }

    /** Each test has a row of the table, or one that several of a like name share, and each row has a test. */
    private static void testsNamed(String readme) throws IOException {
        Set<String> rows = new TreeSet<>();
        Matcher m = Pattern.compile("(?m)^\\| `([\\w.]+Test)` \\|").matcher(readme);
        while (m.find()) {
            rows.add(m.group(1).replace("...", "\\w+"));
        }
        Set<String> tests = new TreeSet<>();
        try (Stream<Path> files = Files.list(TESTS)) {
            files.map(f -> f.getFileName().toString()).filter(f -> f.endsWith("Test.java"))
                .forEach(f -> tests.add(f.replace(".java", "")));
        }
        for (String test : tests) {
            due("whether a row tells of " + test, rows.stream().anyMatch(test::matches), true);
        }
        for (String row : rows) {
            due("whether there is a " + row, tests.stream().anyMatch(t -> t.matches(row)), true);
        }
    }
}
