import java.io.IOException;
import java.nio.charset.StandardCharsets;
import java.nio.file.Files;
import java.nio.file.Path;
import java.util.ArrayList;
import java.util.List;
import java.util.function.BooleanSupplier;
import java.util.function.IntToLongFunction;
import java.util.function.LongSupplier;

/**
 * What the tests of edges share. An edge is a sentence of the document that names a boundary case, quoted, with a test
 * of its own; promise 0 stands for what is said of the object as a whole.
 */
abstract class Edges {
    static final int NONE = -1;
    static final String BASE = "wheel over 10 wide 2 buckets 20 deep 12 slant 5 at 0;";
    static final String SHORT = "wheel over 3 wide 2 buckets 4 deep 5;";
    static final String UNDER = "wheel under 10 wide 2 buckets 20 deep 12;";

    private static final int PROMISES = 45;
    private static final Path DOCUMENT = Path.of("../shared/DOC.md");
    private static final int[] edgesOf = new int[PROMISES + 1];
    private static final List<String> quotes = new ArrayList<>();
    private static String document;
    private static int promise;
    private static String sentence = "";
    private static boolean holds;
    private static int wrong;

    Edges() { }

    static void open() throws IOException {
        document = Files.isReadable(DOCUMENT) ? plain(Files.readString(DOCUMENT)) : "";
        if (document.isEmpty()) {
            System.out.println("no document to hold the quotes against");
        }
    }

    /** The edges that follow belong to this promise. */
    static void promise(int number) {
        promise = number;
    }

    static void edge(String quote, Runnable test) {
        sentence = quote;
        holds = true;
        edgesOf[promise]++;
        quotes.add(plain(quote));
        if (!document.isEmpty() && !isQuote(plain(quote))) {
            fails("the document has no such sentence there");
        }
        try {
            test.run();
        } catch (RuntimeException e) {
            fails("threw " + e);
        }
        wrong += holds ? 0 : 1;
    }

    static void due(String call, long got, long want) {
        if (got != want) {
            fails(call + " answered " + got + ", due is " + want);
        }
    }

    static void due(String call, boolean got, boolean want) {
        due(call, got ? 1 : 0, want ? 1 : 0);
    }

    private static void fails(String what) {
        if (holds) {
            System.out.println("promise " + promise + ", \"" + sentence + "\": " + what);
        }
        holds = false;
    }

    /** The number may go from the least to the most; beyond these the call answers as if there were none such. */
    static void range(String call, int least, int most, long none, IntToLongFunction answer) {
        for (int v : new int[] {least, most}) {
            if (answer.applyAsLong(v) == none) {
                fails(call + " of " + v + " answered " + none);
            }
        }
        for (int v : new int[] {least - 1, most + 1, Integer.MIN_VALUE, Integer.MAX_VALUE}) {
            due(call + " of " + v, answer.applyAsLong(v), none);
        }
    }

    static void range(String call, int least, int most, IntToLongFunction answer) {
        range(call, least, most, NONE, answer);
    }

    /** Of six mills those of these numbers are told; and the call says NONE for all others. */
    static void mills(String call, long none, IntToLongFunction answer, int... ones) {
        for (int mill = -2; mill <= 7; mill++) {
            boolean isOne = false;
            for (int one : ones) {
                isOne |= one == mill;
            }
            long got = answer.applyAsLong(mill);
            if ((got == none) == isOne) {
                fails(call + " of mill " + mill + " answered " + got);
            }
        }
        due(call + " of the least number", answer.applyAsLong(Integer.MIN_VALUE), none);
        due(call + " of the greatest number", answer.applyAsLong(Integer.MAX_VALUE), none);
    }

    /** The call answers so, is counted once among those REFUSED for this reason, and does nothing else. */
    static void refused(MillRow x, int reason, long answer, String call, LongSupplier asked) {
        long[] was = state(x);
        due(call, asked.getAsLong(), answer);
        long[] is = state(x);
        was[3 + reason]++;
        for (int i = 0; i < was.length; i++) {
            due("state " + i + " behind " + call, is[i], was[i]);
        }
    }

    static void refused(MillRow x, int reason, String call, BooleanSupplier asked) {
        refused(x, reason, 0, call, () -> asked.getAsBoolean() ? 1 : 0);
    }

    /** The call answers so, and does nothing at all: it is not REFUSED either. */
    static void nothing(MillRow x, long answer, String call, LongSupplier asked) {
        long[] was = state(x);
        due(call, asked.getAsLong(), answer);
        long[] is = state(x);
        for (int i = 0; i < was.length; i++) {
            due("state " + i + " behind " + call, is[i], was[i]);
        }
    }

    private static long[] state(MillRow x) {
        long[] all = new long[10 + 5 + 1 + 2];
        for (int what = 0; what < 10; what++) {
            all[what] = x.count(what);
        }
        for (int what = 0; what < 5; what++) {
            all[10 + what] = x.water(what);
        }
        all[15] = x.fault();
        all[16] = x.flow(0);
        all[17] = x.raised(0);
        return all;
    }

    // ---- objects

    static void feed(MillRow x, byte[] b) {
        for (int i = 0; i < b.length; i += 20) {
            int[] five = new int[5];
            for (int k = 0; k < 20; k++) {
                five[k / 4] = five[k / 4] << 8 | (i + k < b.length ? b[i + k] & 255 : 32);
            }
            x.feed(five[0], five[1], five[2], five[3], five[4]);
        }
    }

    static void feed(MillRow x, String text) {
        feed(x, text.getBytes(StandardCharsets.ISO_8859_1));
    }

    static int tell(MillRow x, int mill, String text) {
        feed(x, text);
        return x.mill(mill, text.length());
    }

    static MillRow with(String... texts) {
        MillRow x = new MillRow();
        for (int i = 0; i < texts.length; i++) {
            if (tell(x, i, texts[i]) < 1) {
                fails("a fault at " + x.fault() + " of " + texts[i]);
            }
        }
        return x;
    }

    /** As with(), and on DAY 0 so many pints a minute. */
    static MillRow brook(int flow, String... texts) {
        MillRow x = with(texts);
        x.day(0, flow, false);
        return x;
    }

    static void hours(MillRow x, int many) {
        for (int left = many; left > 0; left -= 96) {
            x.hours(Math.min(96, left));
        }
    }

    static long sin(int a) {
        return 4000L * a * (180 - a) / (40500 - a * (180 - a));
    }

    static long cos(int a) {
        return a <= 90 ? sin(a + 90) : -sin(a - 90);
    }

    // ---- the document

    private static String plain(String text) {
        return text.replaceAll("\\s+", " ").trim();
    }

    private static String section(String from, String to) {
        int start = document.indexOf(from);
        int end = document.indexOf(to, Math.max(0, start));
        return start < 0 || end < 0 ? "" : document.substring(start, end);
    }

    /** A promise may use the words of "Terms", too. */
    private static boolean isQuote(String quote) {
        String own = promise == 0 ? section("## What it is", "## Terms")
                : section("## Promise " + promise + ":", promise < PROMISES ? "## Promise " + (promise + 1) + ":" : "## Not promised");
        return own.contains(quote) || section("## Terms", "## Promise 1:").contains(quote);
    }

    /** What of the document no quote stands for, to look over by hand. */
    private static void printRest() {
        boolean[] quoted = new boolean[document.length()];
        for (String quote : quotes) {
            for (int at = document.indexOf(quote); at >= 0; at = document.indexOf(quote, at + 1)) {
                java.util.Arrays.fill(quoted, at, at + quote.length(), true);
            }
        }
        StringBuilder rest = new StringBuilder();
        for (int i = 0; i < quoted.length; i++) {
            rest.append(quoted[i] ? i > 0 && quoted[i - 1] ? "" : "\n .. " : document.charAt(i));
        }
        System.out.println(rest);
    }

    static void close(boolean rest) {
        int edges = 0;
        for (int i = 0; i <= PROMISES; i++) {
            edges += edgesOf[i];
            if (edgesOf[i] == 0) {
                wrong++;
                System.out.println("no edge of promise " + i);
            }
        }
        if (rest) {
            printRest();
        }
        System.out.println(edges + " edges, " + wrong + " wrong");
        if (wrong != 0) {
            System.exit(1);
        }
    }
}
