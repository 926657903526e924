import java.util.ArrayList;
import java.util.List;
import java.util.Random;

/** Long runs of random calls: every answer of the program is held against the Reference's. */
public final class RandomRunsTest {
    private static final int CALLS = 512;
    private final Random random;
    private final MillRow x = new MillRow();
    private final Reference r = new Reference();
    private final List<String> told = new ArrayList<>();
    private int left = CALLS;
    private boolean well = true;

    private RandomRunsTest(long seed) {
        random = new Random(seed);
    }

    public static void main(String[] args) {
        int runs = args.length > 0 ? Integer.parseInt(args[0]) : 120;
        int wrong = 0;
        for (int run = 0; run < runs && wrong < 5; run++) {
            RandomRunsTest t = new RandomRunsTest(run);
            t.run(run % 4);
            if (!t.well) {
                wrong++;
                System.out.println("run " + run + ": " + String.join("\n  ", t.told.subList(Math.max(0, t.told.size() - 12), t.told.size())));
            }
        }
        System.out.println(runs + " random runs, " + wrong + " wrong");
        if (wrong != 0) {
            System.exit(1);
        }
    }

    private void check(String call, long got, long want) {
        left--;
        told.add(call + " -> " + got + (got == want ? "" : ", due is " + want));
        well = well && got == want;
    }

    private static long one(boolean b) {
        return b ? 1 : 0;
    }

    private void run(int kind) {
        int mills = kind == 0 ? 1 : 1 + random.nextInt(6);
        for (int i = 0; i < mills; i++) {
            tell(random.nextInt(6), text(kind == 3));
        }
        for (int d = 0; d < 4; d++) {
            int flow = random.nextInt(random.nextBoolean() ? 3000 : 100_000);
            check("day " + d + " " + flow, one(x.day(d, flow, false)), one(r.day(d, flow, false)));
        }
        while (left > 60 && well) {
            call(kind);
        }
    }

    private int pick(int... vs) {
        return vs[random.nextInt(vs.length)];
    }

    /** Mostly within, now and then at the edges or beyond them. */
    private int near(int least, int most) {
        int dice = random.nextInt(40);
        if (dice == 0) {
            return pick(least - 1, most + 1, Integer.MIN_VALUE, Integer.MAX_VALUE, -1);
        }
        if (dice < 6) {
            return pick(least, most);
        }
        int wide = most - least + 1;
        return least + (random.nextInt(3) == 0 ? random.nextInt(Math.min(wide, 12)) : random.nextInt(wide));
    }

    private int mill() {
        return near(0, 5);
    }

    private void tell(int mill, String text) {
        byte[] b = text.getBytes(java.nio.charset.StandardCharsets.ISO_8859_1);
        int n = Math.min(b.length, 700);
        for (int i = 0; i < n; i += 20) {
            int[] five = new int[5];
            for (int k = 0; k < 20; k++) {
                five[k / 4] = five[k / 4] << 8 | (i + k < n ? b[i + k] & 255 : random.nextInt(256));
            }
            check("feed", x.feed(five[0], five[1], five[2], five[3], five[4]), r.feed(five));
        }
        int asked = random.nextInt(60) == 0 ? near(0, n) : n;
        check("mill " + mill + " " + asked + " " + text, x.mill(mill, asked), r.mill(mill, asked));
        check("fault", x.fault(), r.fault());
    }

    // ---- texts

    private String number(int least, int most) {
        int v = random.nextInt(150) == 0 ? pick(Math.max(0, least - 1), most + 1) : least + random.nextInt(most - least + 1);
        String s = Integer.toString(v);
        return random.nextInt(40) == 0 ? "0" + s : random.nextInt(200) == 0 ? "00000" : s;
    }

    private String text(boolean spoiled) {
        StringBuilder b = new StringBuilder("wheel " + (random.nextInt(4) == 0 ? "under " : "over "));
        int size = random.nextInt(3) == 0 ? 5 : 40;
        b.append(number(2, size)).append(" wide ").append(number(1, size / 2)).append(" buckets ").append(number(4, 80))
                .append(" deep ").append(number(1, random.nextInt(3) == 0 ? 4 : 24));
        if (random.nextBoolean()) {
            b.append(" slant ").append(number(0, 9));
        }
        if (random.nextBoolean()) {
            b.append(" at ").append(number(0, 90));
        }
        b.append(';');
        int statements = random.nextInt(60) == 0 ? 27 + random.nextInt(5) : random.nextInt(9);
        for (int i = 0; i < statements; i++) {
            b.append(random.nextInt(5) == 0 ? pick(" ", "\n") : "").append(statement());
        }
        if (spoiled) {
            spoil(b);
        }
        return b.toString();
    }

    private String pick(String... vs) {
        return vs[random.nextInt(vs.length)];
    }

    private String statement() {
        switch (random.nextInt(8)) {
            case 0: return "pond " + number(1, random.nextBoolean() ? 60 : 9999) + ";";
            case 1: return "nail " + number(0, 100) + ";";
            case 2: return "pace " + number(1, random.nextBoolean() ? 50 : 300) + ";";
            case 3: return "rub " + number(0, 9999) + ";";
            default: return "gate " + number(0, 999) + (random.nextInt(4) == 0 ? "" : " if " + any(0, random.nextInt(4))) + ";";
        }
    }

    private String any(int nested, int more) {
        String s = all(nested, more);
        return random.nextInt(4) == 0 ? s + " or " + any(nested, more) : s;
    }

    private String all(int nested, int more) {
        String s = one(nested, more);
        return random.nextInt(4) == 0 ? s + " and " + all(nested, more) : s;
    }

    private String one(int nested, int more) {
        int most = random.nextInt(100) == 0 ? 10 : 9;
        if (nested < most && random.nextInt(4) < more) {
            return random.nextBoolean() ? "not " + one(nested + 1, more) : "(" + any(nested + 1, more) + ")";
        }
        String word = pick("hour", "level", "flow", "day", "below");
        int most1 = word.equals("hour") ? 24 : word.equals("flow") ? 3000 : word.equals("day") ? 10 : 100;
        return word + pick("<", ">", "=") + random.nextInt(most1);
    }

    private void spoil(StringBuilder b) {
        int place = random.nextInt(b.length());
        switch (random.nextInt(5)) {
            case 0 -> b.setLength(place);
            case 1 -> b.deleteCharAt(place);
            case 2 -> b.setCharAt(place, (char) random.nextInt(256));
            case 3 -> b.insert(place, pick(" not ", "(", ")", ";", " and ", " or ", "<", "5", " hour ", " if ", "x"));
            default -> b.append(pick(" ", "\n", "pond", "gate 3 if ", "nail 7", "@"));
        }
    }

    // ---- calls

    private void call(int kind) {
        int m = mill();
        int flow = near(0, random.nextBoolean() ? 99_999 : 4_000);
        int pace = near(1, 300);
        int head = near(0, 240);
        int below = near(0, 100);
        switch (random.nextInt(60)) {
            case 0, 1 -> {
                if (kind == 3 || random.nextInt(3) == 0) {
                    tell(m, text(random.nextInt(4) == 0));
                }
            }
            case 2, 3 -> {
                int what = near(0, 16);
                check("told " + m + " " + what, x.told(m, what), r.told(m, what));
            }
            case 4 -> {
                int a = near(0, 180);
                int what = near(0, 1);
                check("sine " + a + " " + what, x.sine(a, what), r.sine(a, what));
            }
            case 5, 6, 7 -> {
                int what = random.nextBoolean() ? near(0, 6) : near(100, 141);
                check("bucket " + m + " " + flow + " " + pace + " " + what, x.bucket(m, flow, pace, what), r.bucket(m, flow, pace, what));
            }
            case 8 -> {
                int a = near(0, 180);
                check("holds " + m + " " + pace + " " + a, x.holds(m, pace, a), r.holds(m, pace, a));
            }
            case 9 -> check("work " + m + " " + flow + " " + pace + " " + head, x.work(m, flow, pace, head), r.work(m, flow, pace, head));
            case 10 -> check("gives " + m + " " + flow + " " + pace + " " + head + " " + below,
                    x.gives(m, flow, pace, head, below), r.gives(m, flow, pace, head, below));
            case 11 -> {
                int what = near(0, 1);
                check("best " + m + " " + flow + " " + head + " " + below + " " + what,
                        x.best(m, flow, head, below, what), r.best(m, flow, head, below, what));
            }
            case 12 -> {
                int fall = near(1, 99);
                check("parts " + m + " " + flow + " " + fall, x.parts(m, flow, fall), r.parts(m, flow, fall));
            }
            case 13 -> {
                int least = near(2, 40);
                int fall = random.nextBoolean() ? least + random.nextInt(8) : near(2, 40);
                int flows = random.nextBoolean() ? near(0, 999_999) : random.nextInt(50) * 1000 + random.nextInt(50);
                int what = near(0, 2);
                check("grid " + m + " " + least + " " + fall + " " + flows + " " + what,
                        x.grid(m, least, fall, flows, what), r.grid(m, least, fall, flows, what));
            }
            case 14 -> {
                int f = near(2, 10);
                int what = near(0, 1);
                check("model " + m + " " + f + " " + flow + " " + what, x.model(m, f, flow, what), r.model(m, f, flow, what));
                check("model " + m + " 2 " + flow + " " + what, x.model(m, 2, flow, what), r.model(m, 2, flow, what));
            }
            case 15, 16 -> {
                int d = near(0, 39);
                boolean ice = random.nextInt(5) == 0;
                check("day " + d + " " + flow + " " + ice, one(x.day(d, flow, ice)), one(r.day(d, flow, ice)));
            }
            case 17 -> {
                int d = near(0, 39);
                check("flow " + d, x.flow(d), r.flow(d));
            }
            case 18, 19, 20, 21 -> {
                int n = random.nextInt(6) == 0 ? near(1, 96) : near(1, 5);
                check("hours " + n, x.hours(n), r.hours(n));
            }
            case 22, 23 -> {
                int d = near(0, 39);
                check("flood " + d, x.flood(d), r.flood(d));
            }
            case 24 -> {
                int v = near(0, 999_999_999);
                check("seed " + v, one(x.seed(v)), one(r.seed(v)));
            }
            case 25, 26 -> checkGround();
            case 27, 28 -> checkWater();
            case 29, 30, 31 -> callShifts();
            case 32 -> {
                int weight = near(0, 99);
                check("guilt " + m + " " + weight, one(x.guilt(m, weight)), one(r.guilt(m, weight)));
            }
            case 33 -> {
                int level = near(0, 100);
                check("seen " + m + " " + level, x.seen(m, level), r.seen(m, level));
            }
            case 34, 35 -> {
                for (int i = 0; i < 6; i++) {
                    check("raised " + i, x.raised(i), r.raised(i));
                }
            }
            case 36, 37 -> {
                int pit = near(1, 20);
                int sizes = near(2, 40) * 100 + near(2, 40);
                int paces = near(1, 300) * 1000 + near(1, 300);
                check("ruin " + pit + " " + sizes + " " + paces, x.ruin(pit, sizes, paces), r.ruin(pit, sizes, paces));
            }
            case 38, 39, 40 -> {
                int v = near(0, 9999);
                check("load " + v, x.load(v), r.load(v));
            }
            case 41 -> check("rim", x.rim(), r.rim());
            case 42 -> {
                int a = near(1, 400);
                int b = near(1, 400);
                int what = near(0, 1);
                check("teeth " + a + " " + b + " " + what, x.teeth(a, b, what), r.teeth(a, b, what));
            }
            case 43 -> {
                int what = near(0, 3);
                check("losses " + m + " " + flow + " " + pace + " " + what, x.losses(m, flow, pace, what), r.losses(m, flow, pace, what));
            }
            case 44, 45 -> {
                int h = near(0, 23);
                int open = near(1, 999);
                int what = near(0, 2);
                check("night " + m + " " + flow + " " + h + " " + open + " " + what,
                        x.night(m, flow, h, open, what), r.night(m, flow, h, open, what));
            }
            case 46 -> {
                int other = mill();
                int fall = near(1, 99);
                check("versus " + m + " " + other + " " + flow + " " + fall, x.versus(m, other, flow, fall), r.versus(m, other, flow, fall));
            }
            case 47 -> {
                int from = near(0, 40);
                int many = near(1, 40);
                int ice = near(1, 9999);
                check("balance " + m + " " + from + " " + many + " " + ice, x.balance(m, from, many, ice), r.balance(m, from, many, ice));
            }
            case 48 -> {
                int feet = near(2, 40);
                int price = near(1, 9999);
                check("fall " + feet + " " + price, x.fall(feet, price), r.fall(feet, price));
            }
            case 49, 50 -> {
                int coins = random.nextBoolean() ? near(0, 99_999) : near(0, 20_000);
                for (int what = 0; what < 3; what++) {
                    check("buy " + m + " " + flow + " " + coins + " " + what, x.buy(m, flow, coins, what), r.buy(m, flow, coins, what));
                }
            }
            case 51, 52 -> {
                int what = near(0, 1);
                check("sleep " + m + " " + what, x.sleep(m, what), r.sleep(m, what));
                check("comes " + m, x.comes(m), r.comes(m));
            }
            case 53 -> {
                int h = near(1, 24);
                int work = random.nextInt(3) == 0 ? near(1, 999_999_999) : near(1, 2_000_000);
                check("order " + h + " " + work, x.order(h, work), r.order(h, work));
            }
            case 54 -> {
                int open = near(0, 999);
                check("served " + m + " " + open, x.served(m, open), r.served(m, open));
            }
            case 55, 56 -> {
                int least = random.nextBoolean() ? near(0, 3_000_000) : 1;
                int k = near(-1, 39);
                check("dry " + m + " " + least + " " + k, x.dry(m, least, k), r.dry(m, least, k));
                check("dry " + m + " " + least + " -1", x.dry(m, least, -1), r.dry(m, least, -1));
            }
            case 57 -> check("image", x.image(), r.image());
            case 58 -> {
                int i = near(0, 2);
                check("restore " + i, one(x.restore(i)), one(r.restore(i)));
            }
            default -> {
                for (int i = -1; i <= 10; i++) {
                    check("count " + i, x.count(i), r.count(i));
                }
            }
        }
    }

    private void checkGround() {
        int m = mill();
        for (int what = -1; what <= 3; what++) {
            check("ground " + m + " " + what, x.ground(m, what), r.ground(m, what));
        }
    }

    private void checkWater() {
        for (int what = -1; what <= 5; what++) {
            check("water " + what, x.water(what), r.water(what));
        }
        left -= 4;
        well = well && x.water(0) == x.water(1) + x.water(2) + x.water(3);
    }

    private void callShifts() {
        int h = near(1, 12);
        int open = near(0, 999);
        switch (random.nextInt(3)) {
            case 0 -> {
                int way = near(0, 63);
                way = random.nextBoolean() ? way & 48 : way;
                int k = near(0, 2);
                check("shift " + h + " " + open + " " + way + " " + k, x.shift(h, open, way, k), r.shift(h, open, way, k));
            }
            case 1 -> {
                int k = random.nextBoolean() ? -1 : near(0, 20);
                check("rests " + h + " " + open + " " + k, x.rests(h, open, k), r.rests(h, open, k));
            }
            default -> {
                int least = random.nextInt(3) == 0 ? near(0, 999_999_999) : near(0, 3_000_000);
                check("all " + h + " " + open + " " + least, x.all(h, open, least), r.all(h, open, least));
            }
        }
    }
}
