import java.io.IOException;
import java.lang.reflect.Method;
import java.lang.reflect.Modifier;
import java.nio.charset.StandardCharsets;
import java.nio.file.Files;
import java.nio.file.Path;
import java.util.List;
import java.util.regex.Matcher;
import java.util.regex.Pattern;
import java.util.stream.Stream;

/** What README.md says of the class and of its tests is so: its first program, its text, its calls, the tests' names. */
public final class ReadmeTest {
    private static final Path README = Path.of("README.md");
    private static final Path TESTS = Path.of("src/test/java");
    private static int wrong = 0;

    public static void main(String[] args) throws Exception {
        String text = Files.readString(README);
        program(text);
        mill(block(text, "text", "## A mill's text"));
        calls(text.substring(text.indexOf("\n## The calls\n")));
        tests(text.substring(text.indexOf("\n## Tests\n")));
        System.out.println("README.md: " + wrong + " wrong");
        if (wrong != 0) {
            System.exit(1);
        }
    }

    private static void wrong(String what) {
        wrong++;
        System.out.println(what);
    }

    /** The first block of this kind, behind the place where another text stands. */
    private static String block(String text, String kind, String behind) {
        int from = text.indexOf("\n```" + kind + "\n", text.indexOf(behind));
        int start = text.indexOf('\n', from + 1) + 1;
        return text.substring(start, text.indexOf("\n```\n", start) + 1);
    }

    private static void program(String text) throws IOException, InterruptedException {
        Path folder = Files.createTempDirectory("readme");
        Path example = folder.resolve("Example.java");
        try {
            Files.writeString(example, block(text, "java", "## A first program"));
            Process run = new ProcessBuilder(Path.of(System.getProperty("java.home"), "bin", "java").toString(), "-cp",
                    System.getProperty("java.class.path"), example.toString()).redirectErrorStream(true).start();
            String printed = new String(run.getInputStream().readAllBytes(), StandardCharsets.UTF_8);
            if (run.waitFor() != 0 || !printed.equals(block(text, "text", "It prints:"))) {
                wrong("the first program prints\n" + printed);
            }
        } finally {
            Files.deleteIfExists(example);
            Files.deleteIfExists(folder);
        }
    }

    private static void mill(String text) {
        MillRow row = new MillRow();
        Edges.feed(row, text);
        if (row.mill(0, text.length()) != 7 || row.told(0, 11) != 2) {
            wrong("the mill's text has a fault at " + row.fault());
        }
    }

    private static void calls(String table) {
        int named = 0;
        Matcher calls = Pattern.compile("`(\\w+)\\(([^)]*)\\)`").matcher(table.substring(0, table.indexOf("\n## Tests\n")));
        while (calls.find()) {
            named++;
            int many = calls.group(2).isEmpty() ? 0 : calls.group(2).split(", ").length;
            boolean there = Stream.of(MillRow.class.getDeclaredMethods()).anyMatch(m -> Modifier.isPublic(m.getModifiers())
                    && m.getName().equals(calls.group(1)) && m.getParameterCount() == many);
            if (!there) {
                wrong("there is no call " + calls.group());
            }
        }
        int all = 0;
        for (Method m : MillRow.class.getDeclaredMethods()) {
            if (Modifier.isPublic(m.getModifiers())) {
                all++;
                if (!table.contains("`" + m.getName() + "(")) {
                    wrong("the table has no " + m.getName());
                }
            }
        }
        if (named != all) {
            wrong("the table names " + named + " calls of " + all);
        }
    }

    private static void tests(String text) throws IOException {
        List<String> names;
        try (Stream<Path> files = Files.list(TESTS)) {
            names = files.map(f -> f.getFileName().toString().replace(".java", "")).toList();
        }
        for (String name : names) {
            if (!text.contains("`" + name + "`")) {
                wrong("the page does not name " + name);
            }
        }
        Matcher named = Pattern.compile("`(\\w+Test|Edges\\w*|Reference)`").matcher(text);
        while (named.find()) {
            if (!names.contains(named.group(1))) {
                wrong("there is no test " + named.group(1));
            }
        }
    }
}
