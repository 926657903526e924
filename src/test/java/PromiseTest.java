import java.nio.charset.StandardCharsets;
import java.util.Arrays;

/** Each promise of the document in turn: ordinary inputs, the edges that it names, and wrong inputs. */
public final class PromiseTest {
    private static final int NONE = -1;
    private static final String BASE = "wheel over 10 wide 2 buckets 20 deep 12 slant 5 at 0;";
    private static final String SHORT = "wheel over 3 wide 2 buckets 4 deep 5;";
    private static final String UNDER = "wheel under 10 wide 2 buckets 20 deep 12;";
    private static int checks = 0;
    private static int wrong = 0;

    public static void main(String[] args) {
        newObject();
        feed();
        mill();
        millInPlace();
        fault();
        told();
        sine();
        bucket();
        bucketEdges();
        holds();
        workOver();
        workUnder();
        gives();
        best();
        parts();
        grid();
        model();
        dayAndFlow();
        hours();
        hoursOfTwo();
        hoursOver();
        rules();
        rulesBelow();
        iceAndDays();
        flood();
        seed();
        ground();
        water();
        shift();
        restsAndAll();
        guiltSeenRaised();
        raisedEdges();
        ruin();
        loadAndRim();
        teeth();
        losses();
        night();
        versus();
        balance();
        fallAndBuy();
        sleep();
        comes();
        orderAndServed();
        dry();
        imageAndRestore();
        count();
        lastHours();
        System.out.println(checks + " checks of the promises, " + wrong + " wrong");
        if (wrong != 0) {
            System.exit(1);
        }
    }

    private static void due(String call, long got, long want) {
        checks++;
        if (got != want) {
            wrong++;
            System.out.println(call + " answered " + got + ", due is " + want);
        }
    }

    private static void due(String call, boolean got, boolean want) {
        due(call, got ? 1 : 0, want ? 1 : 0);
    }

    private static int put(MillRow x, byte[] b) {
        int many = x.count(1);
        for (int i = 0; i < b.length; i += 20) {
            int[] five = new int[5];
            for (int k = 0; k < 20; k++) {
                five[k / 4] = five[k / 4] << 8 | (i + k < b.length ? b[i + k] & 255 : 32);
            }
            many = x.feed(five[0], five[1], five[2], five[3], five[4]);
        }
        return many;
    }

    private static int tell(MillRow x, int mill, String text) {
        byte[] b = text.getBytes(StandardCharsets.ISO_8859_1);
        put(x, b);
        return x.mill(mill, b.length);
    }

    private static MillRow with(String... texts) {
        MillRow x = new MillRow();
        for (int i = 0; i < texts.length; i++) {
            if (tell(x, i, texts[i]) < 1) {
                due("told " + texts[i], x.fault(), NONE);
            }
        }
        return x;
    }

    private static long sin(int a) {
        return 4000L * a * (180 - a) / (40500 - a * (180 - a));
    }

    private static long cos(int a) {
        return a <= 90 ? sin(a + 90) : -sin(a - 90);
    }

    // ---- 1 to 5

    private static void newObject() {
        MillRow x = new MillRow();
        due("NONE", MillRow.NONE, -1);
        for (int i = 0; i <= 9; i++) {
            due("count of a new object", x.count(i), 0);
        }
        for (int i = 0; i < 6; i++) {
            due("told of a new object", x.told(i, 1), NONE);
        }
        for (int i = 0; i <= 4; i++) {
            due("water of a new object", x.water(i), 0);
        }
        for (int d = 0; d < 40; d++) {
            due("flow of a new object", x.flow(d), 0);
        }
        due("fault of a new object", x.fault(), NONE);
    }

    private static void feed() {
        MillRow x = new MillRow();
        for (int i = 1; i <= 35; i++) {
            due("feed", x.feed(0x20202020, 0x20202020, 0x20202020, 0x20202020, 0x20202020), 20 * i);
        }
        due("feed beyond 700", x.feed(1, 2, 3, 4, 5), NONE);
        due("tape", x.count(1), 700);
        due("no refusal", x.count(3) + x.count(4) + x.count(5), 0);
        due("700 blanks", x.mill(0, 700), NONE);
        due("700 blanks", x.fault(), 700);
        due("empty tape", x.count(1), 0);
        x.feed(-1, 0, 0, 0, 0);
        due("byte 255", x.mill(0, 1), NONE);
        due("byte 255", x.fault(), 0);
        x.feed(0x20202020, 0x0a0a0aff, 0, 0, 0);
        x.mill(0, 9);
        due("the highest byte first", x.fault(), 7);
    }

    private static void mill() {
        MillRow x = new MillRow();
        due("one statement", tell(x, 0, SHORT), 1);
        due("six", tell(x, 5, SHORT + "pond 1;nail 2;pace 3;rub 4;gate 5;"), 6);
        due("the least", tell(x, 5, "wheel over 2 wide 1 buckets 4 deep 1 slant 0 at 0;pond 1;nail 0;pace 1;rub 0;gate 0;"), 6);
        due("the most", tell(x, 5, "wheel over 40 wide 20 buckets 80 deep 24 slant 9 at 90;pond 9999;nail 100;pace 300;rub 9999;gate 999;"), 6);
        put(x, SHORT.getBytes());
        int there = x.count(1);
        due("n beyond", x.mill(0, there + 1), -2);
        due("n below", x.mill(0, -1), -2);
        due("mill 6", x.mill(6, SHORT.length()), -2);
        due("mill -1", x.mill(-1, SHORT.length()), -2);
        due("tape stays", x.count(1), there);
        due("refused", x.count(3), 4);
        due("then told", x.mill(0, SHORT.length()), 1);
        due("tape is empty", x.count(1), 0);
        due("a fault", tell(x, 0, "wheel over 40 wide"), NONE);
        due("tape is empty behind a fault", x.count(1), 0);
        due("what was stays", x.told(0, 1), 3);
        due("refused by fault", x.count(5), 1);
        due("fed behind", tell(x, 0, "wheel over 7 wide 1 buckets 4 deep 1 ;"), 1);
        due("in place", x.told(0, 1), 7);
        StringBuilder b = new StringBuilder(SHORT);
        for (int i = 0; i < 29; i++) {
            b.append("nail ").append(i).append(';');
        }
        due("30 statements", tell(x, 2, b.toString()), 30);
        due("the last holds", x.told(2, 8), 28);
        due("31 statements", tell(x, 2, b + " x"), NONE);
        due("31 statements", x.fault(), b.length() + 1);
        due("31 good ones", tell(x, 2, b + "nail 3;"), NONE);
        due("31 good ones", x.fault(), b.length());
        for (int i = 0; i < 35; i++) {
            x.feed(0x3b3b3b3b, 0x3b3b3b3b, 0x3b3b3b3b, 0x3b3b3b3b, 0x3b3b3b3b);
        }
        due("700 tokens", x.mill(2, 700), NONE);
        due("700 tokens", x.fault(), 0);
    }

    private static void millInPlace() {
        MillRow x = with(BASE + "pond 500;gate 100;", BASE + "pond 500;gate 200;");
        x.day(0, 1000, false);
        x.hours(2);
        due("pond", x.told(0, 13), 400);
        due("way", x.told(0, 15), 600);
        due("pond 1", x.told(1, 13), 0);
        due("gone", x.water(3), 200);
        due("image", x.image(), 0);
        tell(x, 0, BASE + "pond 400;");
        due("pond is empty", x.told(0, 13), 0);
        due("gone more", x.water(3), 600);
        due("way stays", x.told(0, 15), 600);
        due("ground nothing", x.ground(0, 0), 0);
        due("no hours", x.ground(0, 1), 0);
        due("the other has", x.ground(1, 0) > 0, true);
        due("no images", x.count(2), 0);
        due("adds up", x.water(0), x.water(1) + x.water(2) + x.water(3));
        due("hours stay", x.water(4), 2);
        tell(x, 3, SHORT);
        x.hours(1);
        due("to the last", x.told(3, 13), 0);
        due("on the way to the last", x.told(1, 15), 300);
        due("the last lets nothing stand on the way", x.told(3, 15), 0);
        x.image();
        tell(x, 0, "wheel");
        due("images stay by a fault", x.count(2), 1);
    }

    private static void fault() {
        MillRow x = new MillRow();
        String[] texts = {"", "  ", "wheel", "wheel ", "wheelover", "wheel over", "wheel over 1", "wheel over 41",
            "wheel over 00003", "wheel over 0003", "wheel over 3 wide 0", "wheel over 3 wide 21", "wheel over 3 deep",
            "wheel over 3 wide 2 buckets 81", "wheel over 3 wide 2 buckets 4 deep 0", SHORT + "gate 5 if hour<24 and;",
            SHORT + "gate 5 if not;", SHORT + "gate 5 if (hour<2));", SHORT + "gate 5 if hour<10000;",
            SHORT + "gate 5 if hour<<1;", SHORT + "gate 5 hour<1;", SHORT + "gate 5 if if;", SHORT + "gate;",
            SHORT + "Gate 3;", SHORT + "rub 3,", SHORT + "rub 3\t;", SHORT + "wheel", SHORT + "pond 10000;",
            SHORT + "pace 0;", SHORT + "gate 5 if hour 3", SHORT + "gate 5 if hour < 3 3", SHORT + ";",
            "wheel over 3 wide 2 buckets 4 deep 5 at 3 slant 4;", "wheel over 3 wide 2 buckets 4 deep 5 slant 10;",
            "wheel over 3 wide 2 buckets 4 deep 5 at 91;", "wheel over 3 wide 2 buckets 4 deep 25;", SHORT + "nail 101;",
            SHORT + "rub 10000;", SHORT + "gate 1000;", SHORT + "pond 0;", SHORT + "pace 301;",
            "wheelz over 3", "xheel over 3 wide 2 buckets 4 deep 5;", "pond 5;", "wheel pond 5;", "wheel over pond 5;",
            "wheel over 3 pond 5;", "wheel over 3 wide pond 5;", "wheel over 3 wide 2 pond 5;", "wheel over 3 wide 2 buckets pond 5;",
            "wheel over 3 wide 2 buckets 4 pond 5;", "wheel over 3 wide 2 buckets 4 deep pond 5;",
            "wheel over 3 wide 2 buckets 4 deep 5 slant pond 5;", "wheel over 3 wide 2 buckets 4 deep 5 at pond 5;",
            "wheel over 3 wide 2 buckets 4 deep 5 pond 5;", SHORT + "pond ;", SHORT + "gate 3 if ;", SHORT + "gate 3 if hour;",
            SHORT + "gate 3 if hour<;", SHORT + "gate 3 if hour<3 not hour<4;", SHORT + "gate 3 if ();",
            "wheel\u00e9", " \n wheel under\n1"};
        int[] places = {0, 2, 5, 6, 0, 10, 11, 11, 11, 15, 18, 18, 13, 28, 35, 37 + 21, 37 + 13, 37 + 18, 37 + 15,
            37 + 15, 37 + 7, 37 + 10, 37 + 4, 37, 37 + 5, 37 + 5, 37, 37 + 5,
            37 + 5, 37 + 15, 37 + 19, 37, 42, 43,
            40, 35, 37 + 5,
            37 + 4, 37 + 5, 37 + 5, 37 + 5,
            0, 0, 0, 6, 11,
            13, 18, 20, 28,
            30, 35,
            43, 40,
            37, 42, 47, 51,
            52, 54, 48,
            5, 15};
        for (int i = 0; i < texts.length; i++) {
            due("mill of " + texts[i], tell(x, i % 6, texts[i]), NONE);
            due("fault of " + texts[i], x.fault(), places[i]);
        }
        due("faults", x.count(5), texts.length);
        due("none told", x.count(0), 0);
        x.mill(9, 0);
        due("a refusal leaves the fault", x.fault(), 15);
        String nine = SHORT + "gate 5 if not(not(not(not(not hour<3))))";
        due("nine open", tell(x, 0, nine + ";"), 2);
        due("no fault", x.fault(), NONE);
        due("nine open and again", tell(x, 0, nine + " or (((((((((hour=1)))))))));"), 2);
        tell(x, 0, SHORT + "gate 5 if not(not(not(not(not(hour<3)))));");
        due("the tenth is a bracket", x.fault(), 37 + 29);
        tell(x, 0, SHORT + "gate 5 if ((((((((( not hour<3)))))))));");
        due("the tenth is a not", x.fault(), 37 + 20);
        due("without blanks", tell(x, 0, "wheel over3wide2buckets4deep5slant9at90;gate5if(hour<3)and day=1or not flow>2;"), 2);
        due("with many", tell(x, 0, " wheel\nover 3 wide 2\n\nbuckets 4 deep 5 ; gate 5 if ( hour < 3 ) ; \n"), 2);
    }

    private static void told() {
        MillRow x = with(SHORT, BASE + "pond 9999;nail 0;pace 300;rub 9999;gate 0;pond 12;gate 999 if day>3;pace 7;", UNDER);
        int[] shorts = {1, 3, 2, 4, 5, 4, 10, 100, 100, 50, 0, 0, 12 * 2 * 5 * 3 / 4, 0, 0, 0};
        int[] longs = {1, 10, 2, 20, 12, 5, 0, 12, 0, 7, 9999, 2, 144, 0, 0, 0, 140};
        for (int what = 0; what < shorts.length; what++) {
            due("told(0, " + what + ")", x.told(0, what), shorts[what]);
        }
        for (int what = 0; what < longs.length; what++) {
            due("told(1, " + what + ")", x.told(1, what), longs[what]);
        }
        due("under", x.told(2, 0), 0);
        due("under's size", x.told(2, 1), 10);
        due("under has no CAP", x.told(2, 12), NONE);
        due("under has no LAST", x.told(2, 16), NONE);
        due("what 17", x.told(1, 17), NONE);
        due("what -1", x.told(1, -1), NONE);
        due("mill 3", x.told(3, 0), NONE);
        due("mill -1", x.told(-1, 0), NONE);
        due("mill 6", x.told(6, 0), NONE);
        MillRow y = with("wheel over 2 wide 1 buckets 80 deep 1;", "wheel over 40 wide 20 buckets 4 deep 24 slant 9;pace 1;",
                "wheel over 40 wide 20 buckets 4 deep 24;pace 300;");
        due("CAP of nothing", y.told(0, 12), 0);
        due("LAST of nothing", y.told(0, 16), 0);
        due("greatest CAP", y.told(1, 12), 57600);
        due("LAST by a great CAP", y.told(1, 16), 172);
        due("LAST where all is thrown", y.told(2, 16), 0);
        x.day(0, 10, false);
        x.hours(1);
        MillRow z = with(BASE + "pond 1;gate 0;");
        z.day(0, 10, false);
        z.hours(1);
        due("LEVEL of the least ROOM", z.told(0, 14), 100);
        due("what has come to a pond", x.told(0, 13), 6);
        due("LEVEL", x.told(0, 14), 6);
        due("nothing on the way", x.told(0, 15), 0);
    }

    // ---- 6 to 14

    private static void sine() {
        MillRow x = new MillRow();
        due("sin 0", x.sine(0, 0), 0);
        due("sin 90", x.sine(90, 0), 1000);
        due("sin 180", x.sine(180, 0), 0);
        due("sin 30", x.sine(30, 0), 4000 * 30 * 150 / (40500 - 4500));
        due("sin 1", x.sine(1, 0), 17);
        due("cos 0", x.sine(0, 1), 1000);
        due("cos 90", x.sine(90, 1), 0);
        due("cos 91", x.sine(91, 1), -17);
        due("cos 180", x.sine(180, 1), -1000);
        for (int a = 0; a <= 180; a++) {
            due("sin " + a, x.sine(a, 0), sin(a));
            due("cos " + a, x.sine(a, 1), cos(a));
        }
        due("-1", x.sine(-1, 0), -2000);
        due("181", x.sine(181, 1), -2000);
        due("what 2", x.sine(5, 2), -2000);
        due("what -1", x.sine(5, -1), -2000);
    }

    private static void bucket() {
        MillRow x = with(BASE, UNDER);
        long[] answers = {60, 2, 58, 25, 10, 1464, 495430};
        for (int what = 0; what < answers.length; what++) {
            due("bucket " + what, x.bucket(0, 6000, 50, what), answers[what]);
        }
        long[] has = {58, 58, 58, 58, 58, 58, 58, 32, 0, 0};
        long push = 0;
        long work = 0;
        for (int k = 0; k < 10; k++) {
            due("has " + k, x.bucket(0, 6000, 50, 100 + k), has[k]);
            push += has[k] * sin(18 * k);
            work += has[k] * (cos(18 * k) - cos(k == 9 ? 180 : 18 * k + 18));
        }
        due("push", x.bucket(0, 6000, 50, 5), push * 10 / 2000);
        due("work", x.bucket(0, 6000, 50, 6), work * 10 / 2);
        due("place 10", x.bucket(0, 6000, 50, 110), NONE);
        due("99", x.bucket(0, 6000, 50, 99), NONE);
        due("7", x.bucket(0, 6000, 50, 7), NONE);
        due("-1", x.bucket(0, 6000, 50, -1), NONE);
        due("under", x.bucket(1, 6000, 50, 0), NONE);
        due("not told", x.bucket(2, 6000, 50, 0), NONE);
        due("flow -1", x.bucket(0, -1, 50, 0), NONE);
        due("flow 100000", x.bucket(0, 100_000, 50, 0), NONE);
        due("flow 99999", x.bucket(0, 99_999, 50, 0), 999);
        due("flow 0", x.bucket(0, 0, 50, 0), 0);
        due("pace 0", x.bucket(0, 1, 0, 0), NONE);
        due("pace 301", x.bucket(0, 1, 301, 0), NONE);
        due("pace 300", x.bucket(0, 99_999, 300, 0), 166);
        due("pace 300 throws", x.bucket(0, 99_999, 300, 3), 900);
    }

    private static void bucketEdges() {
        MillRow x = with("wheel over 2 wide 20 buckets 80 deep 24 at 0;", "wheel over 40 wide 20 buckets 7 deep 24 at 90;");
        due("splash at most", x.bucket(0, 99_999, 1, 1), 100);
        due("gets nothing", x.bucket(0, 99_999, 1, 2), 0);
        due("40 places", x.bucket(0, 99_999, 1, 4), 40);
        due("has at the last", x.bucket(0, 99_999, 1, 139), 0);
        due("no 41st", x.bucket(0, 99_999, 1, 140), NONE);
        due("places from 90", x.bucket(1, 99_999, 50, 4), 2);
        due("splash of pace alone", x.bucket(1, 99_999, 299, 1), 299 * 40 / 200);
        due("thrown at most", x.bucket(1, 99_999, 300, 3), 1000);
        due("has nothing then", x.bucket(1, 99_999, 300, 100), 0);
        due("thrown", x.bucket(1, 99_999, 99, 3), 99 * 99 * 40 / 1000);
        for (int many = 4; many <= 80; many++) {
            MillRow z = with("wheel over 6 wide 3 buckets " + many + " deep 9 at " + many / 2 + ";");
            long had = z.bucket(0, 9_000, 70, 2);
            long push = 0;
            long work = 0;
            int k = 0;
            for (int at = many / 2; at < 180; k++, at = many / 2 + 360 * k / many) {
                int next = Math.min(180, many / 2 + 360 * (k + 1) / many);
                had = Math.min(had, z.holds(0, 70, at));
                due("has of " + many + " at " + k, z.bucket(0, 9_000, 70, 100 + k), had);
                push += had * sin(at);
                work += had * (cos(at) - cos(next));
            }
            due("places of " + many, z.bucket(0, 9_000, 70, 4), k);
            due("push of " + many, z.bucket(0, 9_000, 70, 5), push * 6 / 2000);
            due("work of " + many, z.bucket(0, 9_000, 70, 6), work * 6 / 2);
        }
        MillRow y = with("wheel over 5 wide 20 buckets 17 deep 24;");
        due("splash of many", y.bucket(0, 1, 40, 1), 2 * 2 + 1);
        due("splash cut", y.bucket(0, 1, 39, 1), 2 * 2);
    }

    private static void holds() {
        MillRow x = with(BASE, UNDER);
        due("at 0", x.holds(0, 50, 0), 140);
        due("at 80", x.holds(0, 50, 80), 140);
        due("at 81", x.holds(0, 50, 81), 140 * 59 / 60);
        due("at 139", x.holds(0, 50, 139), 2);
        due("at 140", x.holds(0, 50, 140), 0);
        due("at 180", x.holds(0, 50, 180), 0);
        due("pace 300", x.holds(0, 300, 0), 144 * 100 / 1000);
        due("pace 1", x.holds(0, 1, 0), 144);
        due("degree -1", x.holds(0, 50, -1), NONE);
        due("degree 181", x.holds(0, 50, 181), NONE);
        due("pace 0", x.holds(0, 0, 0), NONE);
        due("pace 301", x.holds(0, 301, 0), NONE);
        due("under", x.holds(1, 50, 0), NONE);
        due("not told", x.holds(2, 50, 0), NONE);
    }

    private static void workOver() {
        MillRow x = with(BASE);
        due("over", x.work(0, 6000, 50, 60), 2972580);
        due("whatever the head", x.work(0, 6000, 50, -7), 2972580);
        due("whatever the head", x.work(0, 6000, 50, 1000), 2972580);
        due("no flow", x.work(0, 0, 50, 60), 0);
        due("flow 100000", x.work(0, 100_000, 50, 60), NONE);
        due("flow -1", x.work(0, -1, 50, 60), NONE);
        due("pace 0", x.work(0, 1, 0, 60), NONE);
        due("pace 301", x.work(0, 1, 301, 60), NONE);
        due("not told", x.work(1, 1, 1, 60), NONE);
        long bucket = x.bucket(0, 99_999, 123, 6);
        due("cut", x.work(0, 99_999, 123, 0), bucket * 6 * 123 * 20 / 1000);
    }

    private static void workUnder() {
        MillRow x = with(UNDER);
        due("under", x.work(0, 6000, 50, 60), 6000L * (1073 - 150) * 150 / 2880);
        due("no head", x.work(0, 6000, 50, 0), 0);
        due("too slow", x.work(0, 6000, 300, 10), 0);
        due("head 240", x.work(0, 99_999, 300, 240), 99_999L * (2146 - 900) * 900 / 2880);
        due("head 241", x.work(0, 6000, 50, 241), NONE);
        due("head -1", x.work(0, 6000, 50, -1), NONE);
        due("rim cut", x.work(0, 6000, 1, 3), 6000L * (240 - 3) * 3 / 2880);
        due("a root that is whole", x.work(0, 2880, 1, 75), (1200 - 3) * 3);
        for (int head = 1; head <= 240; head++) {
            due("head " + head, x.work(0, 2880, 1, head), ((long) Math.sqrt(19_200 * head) - 3) * 3);
        }
    }

    private static void gives() {
        MillRow x = with(BASE + "rub 100;", UNDER + "rub 7;");
        long work = x.work(0, 6000, 50, 0);
        due("less rub", x.gives(0, 6000, 50, 60, 0), work - 6 * 50 * 100);
        due("less wading", x.gives(0, 6000, 50, 60, 10), work - 6 * 50 * 100 - 6 * 50 * 2 * 100 / 10);
        due("wading is cut", x.gives(0, 6000, 1, 60, 1), x.work(0, 6000, 1, 0) - 600 - 1);
        due("nothing at least", x.gives(0, 1, 50, 60, 100), 0);
        due("head bears on nothing", x.gives(0, 6000, 50, 999, 0), work - 6 * 50 * 100);
        due("under", x.gives(1, 6000, 50, 60, 3), 288437 - 6 * 50 * 7 - 6 * 50 * 2 * 9 / 10);
        due("under's head", x.gives(1, 6000, 50, 241, 3), NONE);
        due("below 101", x.gives(0, 6000, 50, 60, 101), NONE);
        due("below -1", x.gives(0, 6000, 50, 60, -1), NONE);
        due("flow", x.gives(0, 100_000, 50, 60, 0), NONE);
        due("pace", x.gives(0, 6000, 0, 60, 0), NONE);
        due("not told", x.gives(2, 6000, 50, 60, 0), NONE);
    }

    private static void best() {
        MillRow x = with(BASE + "rub 40;", UNDER);
        for (int mill = 0; mill < 2; mill++) {
            for (int below = 0; below <= 100; below += 25) {
                MillRow y = with(BASE + "rub 40;", UNDER);
                int pace = 0;
                long most = -1;
                for (int p = 1; p <= 300; p++) {
                    long gain = y.gives(mill, 3000, p, 90, below);
                    pace = gain > most ? p : pace;
                    most = Math.max(most, gain);
                }
                due("best pace", y.best(mill, 3000, 90, below, 0), pace);
                due("best yield", y.best(mill, 3000, 90, below, 1), most);
            }
        }
        due("the greatest pace", with("wheel under 2 wide 1 buckets 4 deep 1;").best(0, 9_000, 240, 0, 0), 300);
        due("nothing by any", x.best(0, 0, 0, 0, 0), 1);
        due("nothing by any", x.best(0, 0, 0, 0, 1), 0);
        due("what 2", x.best(0, 0, 0, 0, 2), NONE);
        due("what -1", x.best(0, 0, 0, 0, -1), NONE);
        due("flow", x.best(0, -1, 0, 0, 0), NONE);
        due("head", x.best(1, 5, 241, 0, 0), NONE);
        due("below", x.best(1, 5, 240, 101, 0), NONE);
        due("not told", x.best(2, 5, 240, 0, 0), NONE);
    }

    private static void parts() {
        MillRow x = with(BASE, UNDER);
        due("parts", x.parts(0, 6000, 12), 2972580L * 100 / (6000 * 60 * 12));
        due("fall 1", x.parts(0, 6000, 1), 2972580L * 100 / (6000 * 60));
        due("fall 99", x.parts(0, 6000, 99), 2972580L * 100 / (6000 * 60 * 99));
        due("under by head 60", x.parts(1, 6000, 5), 288437L * 100 / (6000 * 60 * 5));
        due("flow 1", with("wheel over 10 wide 2 buckets 4 deep 12;pace 1;").parts(0, 1, 1) > 0, true);
        due("no flow", x.parts(0, 0, 12), NONE);
        due("flow", x.parts(0, 100_000, 12), NONE);
        due("fall 0", x.parts(0, 6000, 0), NONE);
        due("fall 100", x.parts(0, 6000, 100), NONE);
        due("not told", x.parts(2, 6000, 12), NONE);
    }

    private static void grid() {
        String rest = " deep 7 slant 7 at 67;pace 232;rub 53;";
        MillRow x = with("wheel under 9 wide 3 buckets 12" + rest);
        MillRow y = new MillRow();
        int[][] flows = {{40, 917}, {917, 40}, {3, 4}, {0, 999}, {250, 0}, {700, 701}};
        boolean moreByOne = false;
        for (int[] two : flows) {
            long[][] all = new long[16 * 20][];
            int n = 0;
            for (int size = 5; size <= 20; size++) {
                for (int many = 4; many <= 80; many += 4) {
                    y = y.count(3) > 0 || n % 16 == 0 ? new MillRow() : y;
                    tell(y, 0, "wheel over " + size + " wide 3 buckets " + many + rest);
                    long one = y.gives(0, two[0] * 100, 232, 0, 0);
                    all[n++] = new long[] {size, many, one, one + y.gives(0, two[1] * 100, 232, 0, 0)};
                }
            }
            long[] best = all[0];
            for (long[] a : all) {
                best = a[3] > best[3] ? a : best;
            }
            long more = 0;
            for (long[] a : all) {
                more += a[2] > best[2] ? 1 : 0;
            }
            int both = two[0] * 1000 + two[1];
            due("grid's size by " + both, x.grid(0, 5, 20, both, 0), best[0]);
            due("grid's many by " + both, x.grid(0, 5, 20, both, 1), best[1]);
            due("grid's more by " + both, x.grid(0, 5, 20, both, 2), more);
            moreByOne |= more > 0;
        }
        due("some more by one alone", moreByOne, true);
        due("the least of several", x.grid(0, 2, 40, 0, 0), 2);
        due("the least of several", x.grid(0, 2, 40, 0, 1), 4);
        due("none best", x.grid(0, 2, 40, 0, 2), 0);
        due("the greatest size", with("wheel over 9 wide 3 buckets 12 deep 6 slant 2 at 20;pace 33;").grid(0, 5, 8, 20_060, 0), 8);
        due("one size", x.grid(0, 40, 40, 999_999, 0), 40);
        due("least 1", x.grid(0, 1, 40, 0, 0), NONE);
        due("fall 41", x.grid(0, 2, 41, 0, 0), NONE);
        due("least above fall", x.grid(0, 9, 8, 0, 0), NONE);
        due("flows -1", x.grid(0, 2, 8, -1, 0), NONE);
        due("flows 1000000", x.grid(0, 2, 8, 1_000_000, 0), NONE);
        due("what 3", x.grid(0, 2, 8, 0, 3), NONE);
        due("not told", x.grid(1, 2, 8, 0, 0), NONE);
    }

    private static void model() {
        MillRow x = with("wheel over 4 wide 2 buckets 12 deep 2;pace 20;rub 9;", UNDER,
                "wheel over 40 wide 20 buckets 12 deep 24;pace 20;", "wheel over 20 wide 10 buckets 12 deep 12;pace 20;");
        MillRow y = with("wheel over 40 wide 20 buckets 12 deep 20;pace 20;", "wheel over 8 wide 4 buckets 12 deep 4;pace 20;");
        due("what it says", x.model(0, 10, 90, 0), 10_000 * x.work(0, 90, 20, 0));
        due("what is so", x.model(0, 10, 90, 1), y.work(0, 90_000, 20, 0));
        due("at most", x.model(0, 10, 100, 1), y.work(0, 99_999, 20, 0));
        due("what it says beyond", x.model(0, 10, 100, 0), 10_000 * x.work(0, 100, 20, 0));
        due("by 2", x.model(0, 2, 500, 0), 16 * x.work(0, 500, 20, 0));
        due("by 2 so", x.model(0, 2, 500, 1), y.work(1, 4000, 20, 0));
        due("at the edge", x.model(3, 2, 500, 0), 16 * x.work(3, 500, 20, 0));
        due("over the edge", x.model(3, 3, 500, 0), NONE);
        due("too large", x.model(2, 2, 500, 0), NONE);
        due("under", x.model(1, 2, 500, 0), NONE);
        due("f 1", x.model(0, 1, 500, 0), NONE);
        due("f 11", x.model(0, 11, 500, 0), NONE);
        MillRow z = with("wheel over 2 wide 1 buckets 12 deep 1;", "wheel over 21 wide 1 buckets 12 deep 1;",
                "wheel over 2 wide 11 buckets 12 deep 1;", "wheel over 2 wide 1 buckets 12 deep 13;");
        due("f 11 of a small one", z.model(0, 11, 500, 0), NONE);
        due("f 10 of a small one", z.model(0, 10, 500, 0), 10_000 * z.work(0, 500, 50, 0));
        due("SIZE alone is too large", z.model(1, 2, 500, 0), NONE);
        due("WIDE alone is too large", z.model(2, 2, 500, 0), NONE);
        due("DEEP alone is too large", z.model(3, 2, 500, 0), NONE);
        due("flow", x.model(0, 2, 100_000, 0), NONE);
        due("what 2", x.model(0, 2, 500, 2), NONE);
        due("not told", x.model(5, 2, 500, 0), NONE);
    }

    // ---- 15 to 21

    private static void dayAndFlow() {
        MillRow x = new MillRow();
        due("day", x.day(39, 99_999, true), true);
        due("flow", x.flow(39), 99_999);
        due("day", x.day(0, 0, false), true);
        due("day 40", x.day(40, 1, false), false);
        due("day -1", x.day(-1, 1, false), false);
        due("flow 100000", x.day(39, 100_000, false), false);
        due("flow -1", x.day(39, -1, false), false);
        due("nothing done", x.flow(39), 99_999);
        due("refused", x.count(3), 4);
        due("flow 40", x.flow(40), NONE);
        due("flow -1", x.flow(-1), NONE);
    }

    private static void hours() {
        MillRow x = new MillRow();
        due("no mills", x.hours(1), NONE);
        due("refused", x.count(3), 1);
        tell(x, 4, SHORT);
        due("0", x.hours(0), NONE);
        due("97", x.hours(97), NONE);
        due("-1", x.hours(-1), NONE);
        due("refused", x.count(3), 4);
        for (int i = 1; i <= 9; i++) {
            due("96", x.hours(96), 96 * i);
        }
        due("95", x.hours(95), 959);
        due("more than 960", x.hours(2), NONE);
        due("no room", x.count(4), 1);
        due("960", x.hours(1), 960);
        due("961", x.hours(1), NONE);
        due("not as told goes first", x.hours(97), NONE);
        due("not as told goes first", x.count(3), 5);
        due("no room", x.count(4), 2);
    }

    private static void hoursOfTwo() {
        MillRow x = with(BASE + "pond 1000;gate 600;nail 50;", BASE + "pond 500;gate 600 if hour>1;");
        x.day(0, 1000, false);
        long full = x.gives(0, 1000, 50, 60, 0);
        x.hours(1);
        due("ground", x.ground(0, 0), full);
        due("on the way", x.told(0, 15), 600);
        due("not there yet", x.told(1, 13), 0);
        x.hours(1);
        due("there", x.told(1, 13), 500);
        due("over goes on at once", x.water(3), 100);
        due("level", x.told(1, 14), 100);
        x.hours(1);
        due("waded", x.ground(0, 0), 2 * full + x.gives(0, 1000, 50, 60, 50));
        due("hours waded", x.ground(0, 2), 1);
        due("through is at most the pond", x.ground(1, 0), x.gives(1, 500 * 100 / 60, 50, 60, 0));
        due("gone", x.water(3), 100 + 600 + 500);
    }

    private static void hoursOver() {
        MillRow x = with(BASE + "pond 10;gate 7;", BASE + "pond 9999;gate 999;");
        x.day(0, 99_999, false);
        x.hours(1);
        due("pond", x.told(0, 13), 3);
        due("level", x.told(0, 14), 30);
        due("over and through", x.told(0, 15), 59_999 - 3);
        x.hours(1);
        due("pond of the next", x.told(1, 13), 9999 - 999);
        due("over of the next", x.water(3), 59_996 - 9999 + 999);
        due("ground by what goes through", x.ground(1, 0), x.gives(1, 1665, 50, 60, 0));
        due("came", x.water(0), 2 * 59_999);
        due("adds up", x.water(0), x.water(1) + x.water(2) + x.water(3));
        MillRow y = with(UNDER + "pond 700;gate 700;");
        y.day(0, 1000, false);
        y.hours(2);
        due("under by head 60", y.ground(0, 0), 2 * y.gives(0, 1000, 50, 60, 0));
        due("hours", y.ground(0, 1), 2);
    }

    private static void rules() {
        String[] conditions = {"hour<2", "hour>1 and hour<4", "not hour<22", "hour=5 or hour=7", "hour=1 or hour=2 and hour=3",
            "(hour=1 or hour=2) and hour<2", "not (hour<20 or hour=23)", "not not hour=9", "not hour=9 and hour<11",
            "day=1", "flow=100", "flow>100", "level>10", "below=0", "below>0", "hour<0000", "level<9999"};
        long[] bits = {3, 12, 3 << 22, 1 << 5 | 1 << 7, 2, 2, 7 << 20, 1 << 9, 0x5ff,
            0, 0xffffff, 0, -1, 0xffffff, 0, 0, 0xffffff};
        for (int i = 0; i < conditions.length; i++) {
            if (bits[i] < 0) {
                continue;
            }
            MillRow x = with(BASE + "pond 9999;gate 1 if " + conditions[i] + ";");
            x.day(0, 100, false);
            for (int h = 0; h < 24; h++) {
                long before = x.water(3);
                x.hours(1);
                due(conditions[i] + " at " + h, x.water(3) - before, bits[i] >> h & 1);
            }
        }
        MillRow y = with(BASE + "pond 1000;gate 5 if level>50;gate 3 if level>20;gate 1;gate 9;");
        y.day(0, 170, false);
        y.hours(1);
        due("gate by the level behind what comes", y.water(3), 1);
        y.hours(2);
        due("the first that holds", y.water(3), 1 + 1 + 3);
        MillRow z = with(BASE + "pond 100;gate 9 if level=50;gate 2 if level=51;");
        z.day(0, 84, false);
        z.hours(1);
        due("level is that with what came", z.told(0, 13), 50 - 9);
    }

    private static void rulesBelow() {
        MillRow x = with(BASE + "pond 1000;gate 50 if below<50;gate 7;nail 0;", BASE + "pond 100;");
        x.day(0, 100, false);
        x.hours(1);
        due("below 0 at first", x.told(0, 15), 50);
        x.hours(1);
        due("still 0 in the hour before", x.told(0, 15), 50);
        due("the next has it now", x.told(1, 14), 50);
        due("nothing waded", x.ground(0, 2), 0);
        x.hours(1);
        due("now 50", x.told(0, 15), 7);
        due("waded", x.ground(0, 2), 1);
        tell(x, 1, BASE + "pond 100;");
        x.hours(1);
        due("empty again", x.told(0, 15), 50);
        due("not waded", x.ground(0, 2), 1);
        MillRow y = with(BASE + "pond 500;gate 1;nail 0;", BASE + "pond 100;");
        y.day(0, 100, false);
        y.hours(2);
        due("LEVEL 1", y.told(1, 14), 1);
        due("nothing BELOW yet", y.ground(0, 2), 0);
        y.hours(1);
        due("waded by one of water and one BELOW", y.ground(0, 2), 1);
        MillRow z = with(BASE + "pond 1;gate 0;nail 0;", BASE + "pond 100;");
        z.day(0, 100, false);
        z.hours(5);
        due("over the brim alone", z.told(1, 14) > 50, true);
        due("no wading without water through the gate", z.ground(0, 2), 0);
    }

    private static void iceAndDays() {
        MillRow x = with(BASE + "gate 9 if day=1 and flow=500;");
        x.day(0, 100, true);
        x.day(1, 500, false);
        x.day(2, 500, true);
        x.hours(24);
        due("ice", x.water(0), 0);
        x.hours(1);
        due("day 1", x.water(0), 300);
        due("gate by the day", x.water(3), 200 + 9);
        x.hours(23);
        due("day 1", x.water(0), 24 * 300);
        long gone = x.water(3);
        x.hours(24);
        due("ice again", x.water(0), 24 * 300);
        due("gate shut", x.water(3), gone);
        x.hours(1);
        due("a day not told", x.water(0), 24 * 300);
        MillRow y = with(BASE + "gate 9 if flow=500;");
        y.day(0, 500, false);
        y.hours(1);
        y.day(0, 500, true);
        long before = y.water(3);
        y.hours(1);
        due("flow is told with ice, too", y.water(3) - before, 9);
    }

    private static void flood() {
        MillRow x = new MillRow();
        java.math.BigInteger z = java.math.BigInteger.ONE;
        int ten = 0;
        int three = 0;
        for (int i = 0; i < 1200; i++) {
            if (i > 0 && i % 100 == 0) {
                x = new MillRow();
                x.seed(i);
                z = java.math.BigInteger.valueOf(i);
            }
            x.day(i % 40, 7_000, false);
            z = z.multiply(new java.math.BigInteger("6364136223846793005")).add(new java.math.BigInteger("1442695040888963407"))
                    .mod(java.math.BigInteger.TWO.pow(64));
            int drawn = z.shiftRight(33).mod(java.math.BigInteger.valueOf(100)).intValue();
            int times = drawn < 5 ? 10 : drawn < 15 ? 3 : 1;
            ten += times == 10 ? 1 : 0;
            three += times == 3 ? 1 : 0;
            due("flood", x.flood(i % 40), 7_000 * times);
            due("flow", x.flow(i % 40), 7_000 * times);
        }
        due("some of all", ten > 0 && three > 0, true);
        due("day 40", x.flood(40), NONE);
        due("day -1", x.flood(-1), NONE);
        due("refused", x.count(3), 2);
        MillRow y = new MillRow();
        for (int i = 0; i < 200; i++) {
            y.day(3, 50_000, true);
            int flow = y.flood(3);
            due("at most", flow == 50_000 || flow == 99_999, true);
        }
    }

    private static void seed() {
        MillRow x = new MillRow();
        MillRow y = new MillRow();
        due("seed", x.seed(999_999_999), true);
        due("seed", y.seed(999_999_999), true);
        int same = 0;
        for (int i = 0; i < 40; i++) {
            x.day(i, 100, false);
            y.day(i, 100, false);
            same += x.flood(i) == y.flood(i) ? 1 : 0;
        }
        due("the same", same, 40);
        due("not as told", x.seed(-1), false);
        due("not as told", x.seed(1_000_000_000), false);
        due("refused", x.count(3), 2);
        due("0", x.seed(0), true);
        long z = 1442695040888963407L;
        x.day(5, 100, false);
        long drawn = (z >>> 33) % 100;
        due("drawn from 0", x.flood(5), drawn < 5 ? 1000 : drawn < 15 ? 300 : 100);
    }

    private static void ground() {
        MillRow x = with(BASE + "rub 9999;gate 1;", BASE + "gate 99;");
        x.day(0, 10, false);
        x.hours(3);
        due("too much rub", x.ground(0, 0), 0);
        due("an hour of nothing is no hour", x.ground(0, 1), 0);
        due("never waded", x.ground(0, 2), 0);
        due("what 3", x.ground(0, 3), NONE);
        due("what -1", x.ground(0, -1), NONE);
        due("not told", x.ground(2, 0), NONE);
        due("mill 6", x.ground(6, 0), NONE);
    }

    private static void water() {
        MillRow x = with(BASE + "pond 77;gate 11 if hour>3;", SHORT + "gate 13;pond 40;", UNDER + "pond 5;");
        for (int d = 0; d < 4; d++) {
            x.day(d, 40 * d + 20, d == 2);
        }
        for (int i = 0; i < 96; i += 3) {
            x.hours(3);
            due("adds up", x.water(0), x.water(1) + x.water(2) + x.water(3));
            due("in ponds", x.water(1), x.told(0, 13) + x.told(1, 13) + x.told(2, 13));
            due("on the way", x.water(2), x.told(0, 15) + x.told(1, 15) + x.told(2, 15));
            due("hours", x.water(4), i + 3);
        }
        due("came", x.water(0), 24 * 12 + 24 * 36 + 24 * 84);
        due("5", x.water(5), NONE);
        due("-1", x.water(-1), NONE);
    }

    // ---- 22 to 31

    private static void shift() {
        MillRow x = with(BASE + "pond 1000;gate 600;");
        x.day(0, 1000, false);
        long hour = x.gives(0, 1000, 50, 60, 0);
        due("all of it", x.shift(12, 600, 0, 0), 12 * hour);
        x.hours(20);
        long before = x.water(3);
        due("what comes today alone", x.shift(1, 600, 48, 0), hour);
        due("nothing comes tomorrow", x.shift(1, 600, 0, 0), x.gives(0, 1000, 50, 60, 0));
        due("what stands in the pond", x.shift(12, 400, 48, 0), fromTwenty(x));
        due("nothing stays", x.water(3), before);
        due("nothing stays", x.water(4), 20);
        MillRow y = new MillRow();
        for (int i = 2; i < 6; i++) {
            tell(y, i, BASE + "pond 500;gate 1;nail 0;");
        }
        y.day(0, 500, false);
        int[] ways = {0, 27, 63};
        for (int way : ways) {
            for (int k = 0; k < 3; k++) {
                MillRow z = new MillRow();
                for (int i = 2; i < 6; i++) {
                    int b = i == 2 ? way / 16 * 6 : i == 3 ? way / 4 % 4 * 6 : way % 4 * 6;
                    String when = b == 18 ? "(hour>17 or hour<1)" : "hour>" + (b - 1) + " and hour<" + (b + 7);
                    when = b == 0 ? "hour<7" : when;
                    tell(z, i, BASE + "pond 500;nail 0;gate " + (i == 5 ? "1;" : "400 if " + when + ";"));
                }
                z.day(0, 500, false);
                z.hours(24);
                due("shift " + way + " of " + k, y.shift(7, 400, way, k), z.ground(2 + k, 0));
            }
        }
        due("open 0", y.shift(7, 0, 0, 0), 0);
        due("open 0", y.rests(7, 0, NONE), 64);
        due("k 3", y.shift(7, 400, 0, 3), NONE);
        due("k -1", y.shift(7, 400, 0, -1), NONE);
        due("way 64", y.shift(7, 400, 64, 0), NONE);
        due("way -1", y.shift(7, 400, -1, 0), NONE);
        due("hours 0", y.shift(0, 400, 0, 0), NONE);
        due("hours 13", y.shift(13, 400, 0, 0), NONE);
        due("open 1000", y.shift(7, 1000, 0, 0), NONE);
        due("open -1", y.shift(7, -1, 0, 0), NONE);
        due("one that isn't there", x.shift(7, 400, 4, 0), NONE);
        due("one that isn't there", x.shift(7, 400, 1, 0), NONE);
        MillRow two = with(BASE, BASE);
        due("two", two.shift(7, 400, 4, 1), 0);
        due("two", two.shift(7, 400, 4, 2), NONE);
        due("two", two.shift(7, 400, 5, 1), NONE);
        due("no mills", new MillRow().shift(7, 400, 0, 0), NONE);
    }

    /** From hour 20 on at 400 an hour: 600 come in each of four hours, then none, to a pond that holds 1000. */
    private static long fromTwenty(MillRow x) {
        long all = 0;
        int pond = 0;
        for (int h = 20; h < 30; h++) {
            pond = Math.min(1000, pond + (h < 24 ? 600 : 0));
            int through = Math.min(400, pond);
            pond -= through;
            all += x.gives(0, through * 100 / 60, 50, 60, 0);
        }
        return all;
    }

    private static void restsAndAll() {
        String[] texts = {BASE + "pond 300;nail 0;", BASE + "pond 300;nail 10;", BASE + "pond 200;"};
        for (int many = 1; many <= 3; many++) {
            MillRow x = with(Arrays.copyOf(texts, many));
            x.day(0, 300, false);
            int step = many == 1 ? 16 : many == 2 ? 4 : 1;
            long[][] grinds = new long[64][many];
            for (int way = 0; way < 64; way += step) {
                for (int k = 0; k < many; k++) {
                    grinds[way][k] = x.shift(5, 250, way, k);
                }
            }
            int found = 0;
            for (int way = 0; way < 64; way += step) {
                boolean rest = true;
                for (int k = 0; k < many; k++) {
                    int value = k == 0 ? 16 : k == 1 ? 4 : 1;
                    for (int b = 0; b < 4; b++) {
                        rest &= grinds[way + (b - way / value % 4) * value][k] <= grinds[way][k];
                    }
                }
                if (rest) {
                    due("rest " + found, x.rests(5, 250, found), way);
                    found++;
                }
            }
            due("rests", x.rests(5, 250, NONE), found);
            due("no more", x.rests(5, 250, found), NONE);
            long least = 0;
            int first = NONE;
            for (int way = 0; way < 64; way += step) {
                long poorest = Arrays.stream(grinds[way]).min().getAsLong();
                first = poorest > least ? way : first;
                least = Math.max(least, poorest);
            }
            due("all grind", x.all(5, 250, (int) least), first);
            due("not so much", x.all(5, 250, (int) least + 1), NONE);
            due("nothing at least", x.all(5, 250, 0), 0);
            due("least -1", x.all(5, 250, -1), NONE);
            due("least beyond", x.all(5, 250, 1_000_000_000), NONE);
            due("k -2", x.rests(5, 250, -2), NONE);
            due("hours", x.rests(0, 250, NONE), NONE);
            due("hours", x.all(13, 250, 0), NONE);
            due("open", x.rests(5, 1000, NONE), NONE);
            due("open", x.all(5, -1, 0), NONE);
        }
        MillRow y = with(BASE + "pond 1000;gate 9;");
        y.day(0, 1000, false);
        y.hours(18);
        due("water comes from 18 to 24 alone", y.rests(6, 600, NONE), 1);
        due("water comes from 18 to 24 alone", y.rests(6, 600, 0), 48);
        y.hours(6);
        y.day(2, 1000, false);
        y.hours(18);
        due("water comes from 0 to 18 tomorrow", y.rests(6, 600, NONE), 3);
        due("water comes from 0 to 18 tomorrow", y.rests(6, 600, 0), 0);
        due("no mills", new MillRow().rests(5, 250, NONE), NONE);
        due("no mills", new MillRow().all(5, 250, 0), NONE);
        due("all rest without water", with(texts).rests(5, 250, NONE), 64);
    }

    private static void guiltSeenRaised() {
        MillRow x = with(BASE + "nail 50;", BASE);
        due("alike at first", x.raised(0), 500_000);
        due("seen", x.seen(0, 51), 1);
        due("above its nail", x.raised(0), 800_000);
        due("above its nail", x.raised(1), 200_000);
        due("seen", x.seen(0, 50), 2);
        due("not above", x.raised(0), 500_000);
        due("guilt", x.guilt(1, 3), true);
        due("weights", x.raised(0), 250_000);
        due("weights", x.raised(1), 750_000);
        due("seen of the other", x.seen(1, 100), 3);
        due("never above 100", x.raised(1), 3 * 2 * 1_000_000 / (3 * 2 + 8));
        due("guilt 100", x.guilt(0, 100), false);
        due("guilt -1", x.guilt(0, -1), false);
        due("guilt of none", x.guilt(2, 1), false);
        due("guilt of 6", x.guilt(6, 1), false);
        due("seen 101", x.seen(0, 101), NONE);
        due("seen -1", x.seen(0, -1), NONE);
        due("seen of none", x.seen(2, 5), NONE);
        due("refused", x.count(3), 7);
        due("seen", x.count(7), 3);
        due("raised of none", x.raised(2), NONE);
        due("raised of 6", x.raised(6), NONE);
        x.guilt(0, 0);
        due("no guilt", x.raised(0), 0);
        due("all guilt", x.raised(1), 1_000_000);
        x.guilt(1, 0);
        due("nothing weighs", x.raised(0), NONE);
        x.guilt(0, 99);
        due("alone", x.raised(0), 1_000_000);
        due("weights stay", x.raised(1), 0);
        tell(x, 5, BASE);
        due("of three", x.raised(5), 10_000);
        MillRow y = with(BASE + "nail 5;", BASE, BASE, BASE, BASE, BASE);
        y.guilt(5, 3);
        due("of six", y.raised(5), 375_000);
        tell(x, 2, BASE);
        x.guilt(5, 0);
        due("of four", x.raised(2), 10_000);
    }

    private static void raisedEdges() {
        MillRow x = with(BASE + "nail 0;", BASE + "nail 0;", BASE);
        x.guilt(2, 0);
        for (int i = 1; i <= 30; i++) {
            due("seen", x.seen(0, 0), i);
        }
        due("31st", x.seen(0, 0), NONE);
        due("no room", x.count(4), 1);
        due("not as told goes first", x.seen(0, 101), NONE);
        due("not as told", x.count(3), 1);
        due("cut to nothing", x.raised(0), 0);
        due("the other", x.raised(1), 1_000_000);
        x.guilt(1, 0);
        due("nothing weighs, all cut", x.raised(1), NONE);
    }

    private static void ruin() {
        MillRow x = with("wheel over 10 wide 3 buckets 20 deep 12;pace 60;", "wheel under 5 wide 2 buckets 20 deep 12;pace 40;");
        tell(x, 5, "wheel over 10 wide 20 buckets 20 deep 12;pace 300;");
        due("all", x.ruin(20, 240, 1300), 1 | 2 | 32);
        due("pit", x.ruin(3, 240, 1300), 3);
        due("pit", x.ruin(2, 240, 1300), 2);
        due("size from", x.ruin(20, 640, 1300), 1 | 32);
        due("size", x.ruin(20, 1010, 1300), 1 | 32);
        due("size to", x.ruin(20, 509, 1300), 2);
        due("pace", x.ruin(20, 240, 60_060), 1);
        due("pace from", x.ruin(20, 240, 61_300), 32);
        due("none", x.ruin(1, 240, 1300), 0);
        due("pit 0", x.ruin(0, 240, 1300), NONE);
        due("pit 21", x.ruin(21, 240, 1300), NONE);
        due("size 1", x.ruin(20, 140, 1300), NONE);
        due("size 41", x.ruin(20, 241, 1300), NONE);
        due("size back", x.ruin(20, 1009, 1300), NONE);
        due("pace 0", x.ruin(20, 240, 300), NONE);
        due("pace 301", x.ruin(20, 240, 1301), NONE);
        due("pace back", x.ruin(20, 240, 60_059), NONE);
        due("below 0", x.ruin(20, -240, 1300), NONE);
        due("below 0", x.ruin(20, 240, -1300), NONE);
        due("asking is no refusal", x.count(3), 0);
    }

    private static void loadAndRim() {
        MillRow x = new MillRow();
        due("no steps", x.rim(), NONE);
        due("asking is no refusal", x.count(3), 0);
        int[] loads = {10, 0, 0, 10};
        for (int i = 0; i < 4; i++) {
            due("load", x.load(loads[i]), i + 1);
        }
        due("steps", x.count(6), 4);
        due("rim", x.rim(), 10);
        due("gone", x.count(6), 0);
        due("gone", x.rim(), NONE);
        x.load(7);
        due("one", x.rim(), 0);
        x.load(1);
        x.load(0);
        due("from 0 at first", x.rim(), 1);
        x.load(0);
        x.load(9999);
        x.load(1);
        due("cut", x.rim(), 3333 + 3333);
        due("load -1", x.load(-1), NONE);
        due("load 10000", x.load(10_000), NONE);
        due("refused", x.count(3), 2);
        for (int i = 1; i <= 24; i++) {
            due("load", x.load(9999 * (i % 2)), i);
        }
        due("25th", x.load(0), NONE);
        due("no room", x.count(4), 1);
        due("not as told goes first", x.load(-1), NONE);
        due("refused", x.count(3), 3);
        due("rim of 24", x.rim(), 12 * 5000 - 11 * 4999);
    }

    private static void teeth() {
        MillRow x = new MillRow();
        for (int one = 1; one <= 400; one += 7) {
            x = new MillRow();
            for (int other = 1; other <= 400; other += 9) {
                int turns = 1;
                while (turns * one % other != 0) {
                    turns++;
                }
                due("teeth " + one + " " + other, x.teeth(one, other, 0), turns);
                due("each " + one + " " + other, x.teeth(one, other, 1), turns == other ? 1 : 0);
            }
        }
        due("400", x.teeth(400, 400, 0), 1);
        due("0", x.teeth(0, 1, 0), NONE);
        due("0", x.teeth(1, 0, 0), NONE);
        due("401", x.teeth(401, 1, 0), NONE);
        due("401", x.teeth(1, 401, 0), NONE);
        due("what 2", x.teeth(1, 1, 2), NONE);
        due("what -1", x.teeth(1, 1, -1), NONE);
    }

    // ---- 32 to 42

    private static void losses() {
        MillRow x = with(BASE, UNDER, "wheel over 2 wide 1 buckets 4 deep 2 slant 0 at 0;pace 10;");
        for (int flow = 0; flow < 99_999; flow += 9_999) {
            x = with(BASE, UNDER, "wheel over 2 wide 1 buckets 4 deep 2 slant 0 at 0;pace 10;");
            for (int pace = 1; pace <= 300; pace += 33) {
                long offered = x.bucket(0, flow, pace, 0);
                long gets = x.bucket(0, flow, pace, 2);
                long first = x.bucket(0, flow, pace, 100);
                long last = x.bucket(0, flow, pace, 109);
                due("splashed", x.losses(0, flow, pace, 0), offered - gets);
                due("wasted", x.losses(0, flow, pace, 1), gets - first);
                due("spilt", x.losses(0, flow, pace, 2), first - last);
                due("carried", x.losses(0, flow, pace, 3), last);
            }
        }
        due("spilt", x.losses(2, 40, 10, 2), 8);
        due("carried", x.losses(2, 40, 10, 3), 2);
        due("what 4", x.losses(0, 1, 1, 4), NONE);
        due("what -1", x.losses(0, 1, 1, -1), NONE);
        due("under", x.losses(1, 1, 1, 0), NONE);
        due("flow", x.losses(0, 100_000, 1, 0), NONE);
        due("pace", x.losses(0, 1, 301, 0), NONE);
        due("not told", x.losses(3, 1, 1, 0), NONE);
    }

    private static void night() {
        MillRow x = with(BASE + "pond 1000;", UNDER);
        due("hours", x.night(0, 1000, 10, 600, 0), 14);
        due("yield", x.night(0, 1000, 10, 600, 1), 14 * x.gives(0, 1000, 50, 60, 0));
        due("left", x.night(0, 1000, 10, 600, 2), 400);
        due("as long as there's all", x.night(0, 10, 23, 143, 0), 1);
        due("and left", x.night(0, 10, 23, 143, 2), 1);
        due("no longer than there's all", x.night(0, 2, 0, 2, 0), 0);
        due("no longer than there's all", x.night(0, 2, 0, 2, 1), 0);
        due("what came in the hour without all is left", x.night(0, 2, 0, 2, 2), 1);
        due("till it isn't all", x.night(0, 50, 10, 100, 0), 4);
        due("yield till it isn't all", x.night(0, 50, 10, 100, 1), 4 * x.gives(0, 166, 50, 60, 0));
        due("left when it isn't all", x.night(0, 50, 10, 100, 2), 50);
        due("not all of it", x.night(0, 10, 23, 145, 0), 0);
        due("left", x.night(0, 10, 23, 145, 2), 144);
        for (int flow = 0; flow < 900; flow += 7) {
            x = with(BASE + "pond 1000;", UNDER);
            int open = 1 + flow * 3 % 997;
            int pond = 0;
            int through = 0;
            boolean all = true;
            for (int h = 0; h < 24 && all; h++) {
                pond = Math.min(1000, pond + 60 * flow / 100);
                all = h < 8 || pond >= open;
                if (h >= 8 && all) {
                    through++;
                    pond -= open;
                }
            }
            due("night's hours", x.night(0, flow, 8, open, 0), through);
            due("night's yield", x.night(0, flow, 8, open, 1), through * x.gives(0, 100 * open / 60, 50, 60, 0));
            due("night's rest", x.night(0, flow, 8, open, 2), pond);
        }
        due("under by head 60", x.night(1, 5000, 0, 50, 1), 24 * x.gives(1, 83, 50, 60, 0));
        due("room", x.night(1, 99_999, 0, 100, 2), 0);
        due("beyond room", x.night(1, 99_999, 0, 101, 0), 0);
        due("beyond room", x.night(1, 99_999, 23, 101, 2), 100);
        due("cut", x.night(0, 1, 0, 1, 0), 0);
        due("hours 24", x.night(0, 1000, 24, 600, 0), NONE);
        due("hours -1", x.night(0, 1000, -1, 600, 0), NONE);
        due("open 0", x.night(0, 1000, 1, 0, 0), NONE);
        due("open 1000", x.night(0, 1000, 1, 1000, 0), NONE);
        due("flow", x.night(0, 100_000, 1, 1, 0), NONE);
        due("what 3", x.night(0, 1000, 1, 1, 3), NONE);
        due("what -1", x.night(0, 1000, 1, 1, -1), NONE);
        due("not told", x.night(2, 1000, 1, 1, 0), NONE);
    }

    private static void versus() {
        MillRow x = with(BASE, UNDER, "wheel over 2 wide 1 buckets 4 deep 1;", "wheel under 40 wide 20 buckets 20 deep 12;");
        for (int fall = 1; fall <= 99; fall += 14) {
            int head = Math.min(240, 12 * fall);
            due("versus", x.versus(0, 1, 5000, fall), x.best(1, 5000, head, 0, 1) * 100 / x.best(0, 5000, head, 0, 1));
        }
        due("much", x.versus(2, 3, 99_999, 99), x.best(3, 99_999, 240, 0, 1) * 100 / x.best(2, 99_999, 240, 0, 1));
        MillRow y = with("wheel over 3 wide 1 buckets 35 deep 1 slant 3 at 32;rub 29;", "wheel under 40 wide 20 buckets 20 deep 12;",
                "wheel over 10 wide 20 buckets 30 deep 12;");
        due("so little over", y.best(0, 99_999, 0, 0, 1), 1);
        due("at most", y.versus(0, 1, 99_999, 99), 2_000_000_000);
        for (int flow = 0; flow < 99_999; flow += 3_333) {
            long one = y.best(2, flow, 60, 0, 1);
            due("wide ones", y.versus(2, 1, flow, 5), one == 0 ? NONE : y.best(1, flow, 60, 0, 1) * 100 / one);
        }
        due("the one over has none", x.versus(0, 1, 0, 5), NONE);
        due("both over", x.versus(0, 2, 5000, 5), NONE);
        due("both under", x.versus(1, 3, 5000, 5), NONE);
        due("turned", x.versus(1, 0, 5000, 5), NONE);
        due("not told", x.versus(0, 4, 5000, 5), NONE);
        due("not told", x.versus(4, 1, 5000, 5), NONE);
        due("fall 0", x.versus(0, 1, 5000, 0), NONE);
        due("fall 100", x.versus(0, 1, 5000, 100), NONE);
        due("flow", x.versus(0, 1, 100_000, 5), NONE);
    }

    private static void balance() {
        MillRow x = with(BASE, UNDER, "wheel over 7 wide 2 buckets 7 deep 12;");
        due("at 90", x.balance(0, 5, 1, 100), 500);
        due("at 270", x.balance(0, 15, 1, 100), -500);
        due("at 0", x.balance(0, 0, 1, 9999), 0);
        due("at 180", x.balance(0, 10, 1, 9999), 0);
        due("all round", x.balance(0, 3, 20, 9999), 0);
        due("over the top", x.balance(0, 19, 3, 40), 0);
        due("over the top", x.balance(0, 18, 4, 100), -sin(36) * 100 * 10 / 2000);
        due("cut to 0", x.balance(2, 4, 1, 1), -sin(360 * 4 / 7 - 180) * 7 / 2000);
        due("cut degrees", x.balance(2, 1, 2, 333), (sin(51) + sin(102)) * 333 * 7 / 2000);
        due("under, too", x.balance(1, 5, 1, 100), 500);
        due("from 20", x.balance(0, 20, 1, 1), -2_000_000_000);
        due("from -1", x.balance(0, -1, 1, 1), -2_000_000_000);
        due("many 0", x.balance(0, 0, 0, 1), -2_000_000_000);
        due("many 21", x.balance(0, 0, 21, 1), -2_000_000_000);
        due("ice 0", x.balance(0, 0, 1, 0), -2_000_000_000);
        due("ice 10000", x.balance(0, 0, 1, 10_000), -2_000_000_000);
        due("not told", x.balance(3, 0, 1, 1), -2_000_000_000);
    }

    private static void fallAndBuy() {
        MillRow x = with(BASE, UNDER);
        due("nothing for sale", x.buy(0, 6000, 100, 0), 0);
        due("nothing for sale", x.buy(0, 6000, 100, 1), 0);
        due("feet 1", x.fall(1, 5), NONE);
        due("feet 41", x.fall(41, 5), NONE);
        due("price 0", x.fall(2, 0), NONE);
        due("price 10000", x.fall(2, 10_000), NONE);
        due("refused", x.count(3), 4);
        int[] feet = {10, 20, 2, 40, 12, 12, 5, 7, 30};
        int[] price = {100, 150, 9999, 70, 60, 60, 1, 2, 90};
        for (int i = 0; i < 9; i++) {
            due("fall", x.fall(feet[i], price[i]), i + 1);
        }
        due("10th", x.fall(2, 1), NONE);
        due("no room", x.count(4), 1);
        long[] yields = new long[9];
        for (int i = 0; i < 9; i++) {
            MillRow y = with("wheel over " + feet[i] + " wide 2 buckets 20 deep 12 slant 5 at 0;");
            yields[i] = y.gives(0, 6000, 50, 0, 0);
        }
        for (int coins : new int[] {0, 1, 60, 99, 100, 121, 250, 400, 99_999}) {
            long[] best = {0, 0, 0};
            for (int set = 0; set < 512; set++) {
                long yield = 0;
                long all = 0;
                for (int i = 0; i < 9; i++) {
                    yield += (set >> i & 1) * yields[i];
                    all += (set >> i & 1) * price[i];
                }
                best = all <= coins && yield > best[1] ? new long[] {set, yield, all} : best;
            }
            for (int what = 0; what < 3; what++) {
                due("buy by " + coins, x.buy(0, 6000, coins, what), best[what]);
            }
        }
        due("no flow", x.buy(0, 0, 99_999, 0), 0);
        due("what 3", x.buy(0, 6000, 5, 3), NONE);
        due("what -1", x.buy(0, 6000, 5, -1), NONE);
        due("coins -1", x.buy(0, 6000, -1, 0), NONE);
        due("coins 100000", x.buy(0, 6000, 100_000, 0), NONE);
        due("under", x.buy(1, 6000, 5, 0), NONE);
        due("flow", x.buy(0, 100_000, 5, 0), NONE);
        due("not told", x.buy(2, 6000, 5, 0), NONE);
    }

    private static void sleep() {
        MillRow x = with(BASE, BASE + "gate 600 if hour>1;", BASE + "gate 3 if hour<8;gate 3 if hour<12;gate 4 if hour<20;gate 3;");
        due("no gate", x.sleep(0, 0), 24);
        due("no gate", x.sleep(0, 1), 0);
        due("22", x.sleep(1, 0), 22);
        due("from 2", x.sleep(1, 1), 2);
        due("the same by two rules", x.sleep(2, 0), 12);
        due("of several the first", x.sleep(2, 1), 0);
        x.hours(12);
        due("an odd row", with(BASE + "gate 1 if hour<7;").sleep(0, 0), 17);
        due("over midnight", x.sleep(2, 0), 16);
        due("over midnight", x.sleep(2, 1), 8);
        due("nothing stays", x.water(4), 12);
        MillRow y = with(BASE + "gate 1 if hour<12;gate 2;");
        due("of several rows the first", y.sleep(0, 1), 0);
        due("of several rows the first", y.sleep(0, 0), 12);
        due("what the rules tell, not what the pond has", with(BASE + "gate 5;").sleep(0, 0), 24);
        due("what 2", x.sleep(0, 2), NONE);
        due("what -1", x.sleep(0, -1), NONE);
        due("not told", x.sleep(3, 0), NONE);
    }

    private static void comes() {
        MillRow x = with(BASE + "pond 10;gate 1 if hour=3;", SHORT + "gate 0;");
        due("no water", x.comes(0), NONE);
        x.day(0, 2, false);
        due("now", x.comes(0), 0);
        due("behind the gate", x.comes(1), 4);
        x.hours(4);
        due("on the way", x.comes(1), 0);
        x.hours(1);
        due("by what goes over", x.comes(1), 12 - 5);
        x.day(1, 100, false);
        MillRow y = with(BASE);
        y.day(1, 2, false);
        due("tomorrow", y.comes(0), NONE);
        y.hours(1);
        due("in the last of 24", y.comes(0), 23);
        due("not told", x.comes(2), NONE);
        due("mill -1", x.comes(-1), NONE);
    }

    private static void orderAndServed() {
        MillRow x = with(BASE + "pond 1000;gate 0;");
        x.day(0, 1000, false);
        long hour = x.gives(0, 1000, 50, 60, 0);
        due("no orders", x.served(0, 600), 0);
        due("hours 0", x.order(0, 1), NONE);
        due("hours 25", x.order(25, 1), NONE);
        due("work 0", x.order(1, 0), NONE);
        due("work beyond", x.order(1, 1_000_000_000), NONE);
        due("refused", x.count(3), 4);
        due("order", x.order(3, (int) hour), 1);
        due("order", x.order(1, (int) hour), 2);
        due("both", x.served(0, 600), 3);
        due("order", x.order(3, (int) hour), 3);
        due("three", x.served(0, 600), 7);
        due("order", x.order(3, 1), 4);
        due("as told", x.served(0, 600), 7);
        due("order", x.order(24, 999_999_999), 5);
        due("order", x.order(4, (int) hour - 1), 6);
        due("by their hours", x.served(0, 600), 7 | 32);
        due("order", x.order(4, 1), 7);
        due("one late keeps the next", x.served(0, 600), 7 | 32);
        due("order", x.order(24, 1), 8);
        due("9th", x.order(1, 1), NONE);
        due("no room", x.count(4), 1);
        due("shut", x.served(0, 0), 0);
        due("nothing stays", x.water(4), 0);
        x.hours(23);
        due("from now on", x.served(0, 600), 2);
        due("open -1", x.served(0, -1), NONE);
        due("open 1000", x.served(0, 1000), NONE);
        due("not told", x.served(1, 600), NONE);
        MillRow z = with(BASE + "pond 1000;gate 600;");
        z.day(0, 1000, false);
        z.hours(5);
        z.order(3, (int) (3 * hour));
        z.order(4, 1);
        due("what was ground before is for none", z.served(0, 600), 3);
        z.order(4, (int) hour);
        due("what was ground before is for none", z.served(0, 600), 3);
        MillRow last = with(BASE + "pond 1000;");
        last.day(0, 1000, false);
        last.order(24, (int) (24 * hour));
        last.order(24, 1);
        due("by the last hour", last.served(0, 600), 1);
        MillRow y = with(BASE + "pond 600;gate 600;", BASE + "pond 600;gate 0;");
        y.day(0, 1000, false);
        y.order(2, (int) y.gives(1, 1000, 50, 60, 0));
        due("the others by their rules", y.served(1, 600), 1);
        due("at the hour", y.served(1, 400), 0);
    }

    private static void dry() {
        MillRow x = with(BASE, UNDER);
        for (int d = 0; d < 40; d++) {
            x.day(d, d * 100, d % 10 == 9);
        }
        for (int mill = 0; mill < 2; mill++) {
            int least = (int) x.gives(mill, 2_000, 50, 60, 0);
            int found = 0;
            for (int d = 0; d < 40; d++) {
                if (d % 10 == 9 || x.gives(mill, d * 100, 50, 60, 0) < least) {
                    due("dry", x.dry(mill, least, found), d);
                    found++;
                }
            }
            due("dry", x.dry(mill, least, NONE), found);
            due("no more", x.dry(mill, least, found), NONE);
        }
        x.day(39, 99_999, true);
        x.day(38, 99_999, false);
        due("with ice 0", x.dry(0, 1, x.dry(0, 1, NONE) - 1), 39);
        due("never", x.dry(0, 0, NONE), 0);
        due("never", x.dry(0, -5, NONE), 0);
        due("always", x.dry(0, Integer.MAX_VALUE, NONE), 40);
        due("the last", x.dry(0, Integer.MAX_VALUE, 39), 39);
        due("k 40", x.dry(0, Integer.MAX_VALUE, 40), NONE);
        due("k -2", x.dry(0, Integer.MAX_VALUE, -2), NONE);
        due("not told", x.dry(2, 1, NONE), NONE);
    }

    // ---- 43 to 45, and the last hours

    private static void imageAndRestore() {
        MillRow x = with(BASE + "pond 500;gate 100;nail 0;", BASE + "pond 50;gate 20;");
        x.day(0, 1000, false);
        x.hours(3);
        x.seed(5);
        long[] was = state(x);
        due("image", x.image(), 0);
        int drawn = x.flood(0);
        int drawnAgain = x.flood(1);
        x.day(39, 7, true);
        x.hours(40);
        due("image", x.image(), 1);
        x.seen(0, 5);
        x.load(3);
        due("restore", x.restore(0), true);
        long[] is = state(x);
        for (int i = 0; i < was.length; i++) {
            due("restored " + i, is[i], was[i]);
        }
        due("z, too", x.flood(0), drawn);
        due("z, too", x.flood(1), drawnAgain);
        due("what is no part", x.count(7) + x.count(6), 2);
        due("images stay", x.count(2), 2);
        due("restore", x.restore(1), true);
        due("hours", x.water(4), 43);
        due("image", x.image(), 2);
        due("4th", x.image(), NONE);
        due("no room", x.count(4), 1);
        due("image 3", x.restore(3), false);
        due("image -1", x.restore(-1), false);
        due("refused", x.count(3), 2);
        x.hours(5);
        due("an image is a copy", x.restore(2), true);
        due("an image is a copy", x.water(4), 43);
        tell(x, 5, SHORT);
        due("no more", x.restore(0), false);
        due("image", x.image(), 0);
        due("ice comes back", iced(), 0);
    }

    private static long iced() {
        MillRow x = with(BASE);
        x.day(0, 1000, true);
        x.image();
        x.day(0, 1000, false);
        x.restore(0);
        x.hours(1);
        return x.water(0);
    }

    private static long[] state(MillRow x) {
        long[] all = new long[6 * 5 + 5 + 40];
        int n = 0;
        for (int m = 0; m < 6; m++) {
            all[n++] = x.told(m, 13);
            all[n++] = x.told(m, 15);
            for (int what = 0; what < 3; what++) {
                all[n++] = x.ground(m, what);
            }
        }
        for (int what = 0; what < 5; what++) {
            all[n++] = x.water(what);
        }
        for (int d = 0; d < 40; d++) {
            all[n++] = x.flow(d);
        }
        return all;
    }

    private static void count() {
        MillRow x = with(BASE, BASE);
        tell(x, 4, BASE);
        tell(x, 4, BASE);
        x.feed(0, 0, 0, 0, 0);
        x.image();
        x.image();
        x.seed(-1);
        x.load(1);
        x.seen(0, 1);
        x.seen(0, 1);
        x.fall(2, 2);
        x.order(2, 2);
        x.order(2, 2);
        x.order(2, 2);
        int[] all = {3, 20, 2, 1, 0, 0, 1, 2, 1, 3};
        for (int i = 0; i < all.length; i++) {
            due("count " + i, x.count(i), all[i]);
        }
        due("count 10", x.count(10), NONE);
        due("count -1", x.count(-1), NONE);
    }

    private static void lastHours() {
        MillRow x = with(BASE + "gate 5;", BASE + "gate 5;");
        x.day(39, 100, false);
        for (int i = 0; i < 9; i++) {
            x.hours(96);
        }
        x.hours(72);
        due("936", x.water(4), 936);
        due("24 are left", x.comes(0), 0);
        due("24 are left", x.sleep(0, 0), 24);
        due("24 are left", x.rests(3, 5, NONE) > 0, true);
        due("24 are left", x.served(0, 5), 0);
        due("24 are left", x.shift(3, 5, 0, 0), 0);
        due("24 are left", x.all(3, 5, 0), 0);
        x.hours(1);
        due("23 are left", x.comes(0), NONE);
        due("23 are left", x.sleep(0, 0), NONE);
        due("23 are left", x.rests(3, 5, NONE), NONE);
        due("23 are left", x.served(0, 5), NONE);
        due("23 are left", x.shift(3, 5, 0, 0), NONE);
        due("23 are left", x.all(3, 5, 0), NONE);
        due("asking is no refusal", x.count(3) + x.count(4), 0);
    }
}
