import java.nio.file.Files;
import java.nio.file.Path;
import java.util.ArrayDeque;
import java.util.Deque;
import java.util.Set;
import java.util.regex.Matcher;
import java.util.regex.Pattern;

/** Holds the program's text against those rules of ../shared/LANGUAGE.md that a look at the text can decide. */
public final class LanguageTest {
    private static final Path PROGRAM = Path.of("src/main/java/MillRow.java");
    private static final Set<String> LIBRARY = Set.of("Math.max", "Math.min", "Math.abs", "Math.floorMod", "Math.floorDiv",
            "Arrays.fill", "Arrays.copyOf", "Arrays.copyOfRange", "System.arraycopy");
    private static int wrong = 0;

    public static void main(String[] args) throws Exception {
        String text = Files.readString(PROGRAM);
        String bare = bare(text);
        for (int i = 0; i < text.length(); i++) {
            if (text.charAt(i) > 126) {
                wrong("a sign beyond 126 at " + i);
                break;
            }
        }
        none(bare, "a word that the rules leave out", "\\b(throw|throws|try|catch|finally|synchronized|assert|package|native|volatile"
                + "|transient|protected|lambda|var|float|double|Object|Exception|Thread|equals|hashCode|toString|instanceof)\\b");
        none(bare, "a lambda or a method reference", "->|::");
        none(bare, "an import", "import (?!java\\.util\\.Arrays;)");
        none(bare, "a static field that isn't final", "static (?!final|int |long |boolean |void )");
        none(bare, "a static row", "static final \\w+\\[\\]");
        none(bare, "a text joined by +", "\"\\s*\\+|\\+\\s*\"");
        Matcher calls = Pattern.compile("\\b([A-Z]\\w*\\.[a-z]\\w*)\\(").matcher(bare);
        while (calls.find()) {
            if (!LIBRARY.contains(calls.group(1)) && !calls.group(1).startsWith("Circle.")) {
                wrong("not in the library: " + calls.group(1));
            }
        }
        methods(bare);
        classes(bare);
        System.out.println("the rules of the language: " + wrong + " wrong");
        if (wrong != 0) {
            System.exit(1);
        }
    }

    private static void wrong(String what) {
        wrong++;
        System.out.println(what);
    }

    /** Without comments, and with every text and sign made empty. */
    private static String bare(String text) {
        return text.replaceAll("(?s)/\\*.*?\\*/", "").replaceAll("//[^\n]*", "").replaceAll("\"[^\"\n]*\"", "\"\"")
                .replaceAll("'[^'\n]+'", "' '");
    }

    private static void none(String bare, String what, String pattern) {
        Matcher found = Pattern.compile(pattern).matcher(bare);
        while (found.find()) {
            wrong(what + ": " + found.group());
        }
    }

    private static void methods(String bare) {
        Matcher heads = Pattern.compile("\\n( +)(?:\\w+(?:\\[\\])? )+(\\w+)\\(([^()]*)\\) \\{\\n").matcher(bare);
        int many = 0;
        while (heads.find()) {
            many++;
            int end = bare.indexOf("\n" + heads.group(1) + "}", heads.end() - 1);
            long lines = bare.substring(heads.start() + 1, end).lines().count();
            if (lines > 60) {
                wrong(heads.group(2) + " has " + lines + " lines");
            }
            if (heads.group(3).split(",").length > 7) {
                wrong(heads.group(2) + " takes too many parameters");
            }
        }
        if (many < 100) {
            wrong("only " + many + " methods were looked at");
        }
    }

    private static void classes(String bare) {
        Deque<String> open = new ArrayDeque<>();
        Deque<int[]> fields = new ArrayDeque<>();
        int classes = 0;
        for (String line : bare.split("\n")) {
            Matcher head = Pattern.compile("^( *)(?:private static |public )final class (\\w+) \\{").matcher(line);
            if (head.find()) {
                classes++;
                open.push(head.group(1));
                fields.push(new int[1]);
            } else if (!open.isEmpty() && line.equals(open.peek() + "}")) {
                open.pop();
                if (fields.pop()[0] > 20) {
                    wrong("a class has more than 20 fields");
                }
            } else if (!open.isEmpty() && line.matches(open.peek() + " {4}\\w.*;")
                    && !line.contains("static") && !line.contains("return ")) {
                fields.peek()[0]++;
            } else if (line.contains(" class ")) {
                wrong("a class that is not static and final: " + line);
            }
        }
        if (classes > 12 || !open.isEmpty()) {
            wrong(classes + " classes, " + open.size() + " left open");
        }
    }
}
