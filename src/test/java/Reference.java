import java.math.BigInteger;
import java.util.ArrayList;
import java.util.Arrays;
import java.util.HashMap;
import java.util.LinkedHashSet;
import java.util.List;
import java.util.Map;
import java.util.Set;
import java.util.TreeMap;
import java.util.function.IntUnaryOperator;

/**
 * The document once more, written for plainness alone and apart from the program (big numbers, trees, a general
 * recogniser for the texts), so that random runs can compare the two.
 */
final class Reference {
    static final int NONE = -1;

    static final class Mill {
        boolean over;
        int size, wide, many, deep, slant = 4, degree = 10, room = 100, nail = 100, pace = 50, rub = 0;
        final List<Integer> opens = new ArrayList<>();
        final List<List<String>> conditions = new ArrayList<>();

        Mill like(int newSize, int newMany) {
            Mill m = new Mill();
            m.over = true;
            m.size = newSize;
            m.many = newMany;
            m.wide = wide;
            m.deep = deep;
            m.slant = slant;
            m.degree = degree;
            m.pace = pace;
            m.rub = rub;
            return m;
        }
    }

    static final class World {
        TreeMap<Integer, Long> pond = new TreeMap<>();
        TreeMap<Integer, Long> way = new TreeMap<>();
        TreeMap<Integer, long[]> ground = new TreeMap<>();
        long came, gone, hours;
        long[] flow = new long[40];
        boolean[] ice = new boolean[40];
        BigInteger z = BigInteger.ONE;

        World copy() {
            World w = new World();
            w.pond.putAll(pond);
            w.way.putAll(way);
            ground.forEach((k, v) -> w.ground.put(k, v.clone()));
            w.came = came;
            w.gone = gone;
            w.hours = hours;
            w.flow = flow.clone();
            w.ice = ice.clone();
            w.z = z;
            return w;
        }
    }

    static final class Hour {
        final Map<Integer, Long> came = new HashMap<>();
        final Map<Integer, Long> told = new HashMap<>();
        final Map<Integer, Long> ground = new HashMap<>();
    }

    final List<Integer> tape = new ArrayList<>();
    final TreeMap<Integer, Mill> mills = new TreeMap<>();
    World world = new World();
    final List<World> images = new ArrayList<>();
    final long[] refused = new long[3];
    final int[] weights = {1, 1, 1, 1, 1, 1};
    final List<int[]> sights = new ArrayList<>();
    final List<Integer> steps = new ArrayList<>();
    final List<int[]> falls = new ArrayList<>();
    final List<int[]> orders = new ArrayList<>();
    int fault = NONE;

    private int no(int reason) {
        refused[reason]++;
        return NONE;
    }

    private static boolean in(long v, long least, long most) {
        return least <= v && v <= most;
    }

    private static long cut(long a, long b) {
        return a / b;
    }

    private static long times(long... vs) {
        BigInteger b = BigInteger.ONE;
        for (long v : vs) {
            b = b.multiply(BigInteger.valueOf(v));
        }
        return b.longValueExact();
    }

    // ---- texts

    private record Token(String text, int place) { }

    private static List<Token> tokens(String s) {
        List<Token> all = new ArrayList<>();
        java.util.regex.Matcher m = java.util.regex.Pattern.compile("[a-z]+|[0-9]+|[^ \\n]", java.util.regex.Pattern.DOTALL)
                .matcher(s);
        while (m.find()) {
            all.add(new Token(m.group(), m.start()));
        }
        return all;
    }

    /** A grammar: a name to its ways; a symbol that is no name is a word, or a range of numbers "#2-40". */
    private static final Map<String, List<String[]>> GRAMMAR = grammar();

    private static void rule(Map<String, List<String[]>> g, String name, String... ways) {
        List<String[]> all = g.computeIfAbsent(name, k -> new ArrayList<>());
        for (String w : ways) {
            all.add(w.isEmpty() ? new String[0] : w.split(" "));
        }
    }

    private static Map<String, List<String[]>> grammar() {
        Map<String, List<String[]>> g = new HashMap<>();
        rule(g, "TEXT", "wheel SIDE #2-40 wide #1-20 buckets #4-80 deep #1-24 SLANT AT ; REST29");
        rule(g, "SIDE", "over", "under");
        rule(g, "SLANT", "", "slant #0-9");
        rule(g, "AT", "", "at #0-90");
        rule(g, "REST0", "");
        for (int i = 1; i < 30; i++) {
            rule(g, "REST" + i, "", "STATEMENT REST" + (i - 1));
        }
        rule(g, "STATEMENT", "pond #1-9999 ;", "nail #0-100 ;", "pace #1-300 ;", "rub #0-9999 ;", "gate #0-999 IF ;");
        rule(g, "IF", "", "if ANY0");
        for (int i = 0; i <= 9; i++) {
            rule(g, "ANY" + i, "ALL" + i, "ALL" + i + " or ANY" + i);
            rule(g, "ALL" + i, "ONE" + i, "ONE" + i + " and ALL" + i);
            rule(g, "ONE" + i, "WORD SIGN #0-9999");
            if (i < 9) {
                rule(g, "ONE" + i, "not ONE" + (i + 1), "( ANY" + (i + 1) + " )");
            }
        }
        rule(g, "WORD", "hour", "level", "flow", "day", "below");
        rule(g, "SIGN", "<", ">", "=");
        return g;
    }

    private static boolean fits(String symbol, String token) {
        if (!symbol.startsWith("#")) {
            return symbol.equals(token);
        }
        String[] range = symbol.substring(1).split("-");
        return token.matches("[0-9]{1,4}")
                && in(Integer.parseInt(token), Integer.parseInt(range[0]), Integer.parseInt(range[1]));
    }

    private record Item(String name, int way, int dot, int from) { }

    /** Earley's recogniser: NONE, or the index of the first token with which no text goes on; size if more must come. */
    private static int badToken(List<Token> tokens) {
        List<Set<Item>> chart = new ArrayList<>();
        chart.add(closed(Set.of(new Item("TEXT", 0, 0, 0)), chart, 0));
        for (int i = 0; i < tokens.size(); i++) {
            Set<Item> seeds = new LinkedHashSet<>();
            for (Item it : chart.get(i)) {
                String[] way = GRAMMAR.get(it.name).get(it.way);
                if (it.dot < way.length && !GRAMMAR.containsKey(way[it.dot]) && fits(way[it.dot], tokens.get(i).text)) {
                    seeds.add(new Item(it.name, it.way, it.dot + 1, it.from));
                }
            }
            if (seeds.isEmpty()) {
                return i;
            }
            chart.add(closed(seeds, chart, i + 1));
        }
        for (Item it : chart.get(tokens.size())) {
            if (it.name.equals("TEXT") && it.dot == GRAMMAR.get("TEXT").get(0).length) {
                return NONE;
            }
        }
        return tokens.size();
    }

    private static Set<Item> closed(Set<Item> seeds, List<Set<Item>> chart, int here) {
        Set<Item> all = new LinkedHashSet<>(seeds);
        boolean grown = true;
        while (grown) {
            grown = false;
            for (Item it : new ArrayList<>(all)) {
                String[] way = GRAMMAR.get(it.name).get(it.way);
                if (it.dot == way.length) {
                    for (Item up : new ArrayList<>(it.from == here ? all : chart.get(it.from))) {
                        String[] w = GRAMMAR.get(up.name).get(up.way);
                        if (up.dot < w.length && w[up.dot].equals(it.name)) {
                            grown |= all.add(new Item(up.name, up.way, up.dot + 1, up.from));
                        }
                    }
                } else if (GRAMMAR.containsKey(way[it.dot])) {
                    for (int k = 0; k < GRAMMAR.get(way[it.dot]).size(); k++) {
                        grown |= all.add(new Item(way[it.dot], k, 0, here));
                    }
                }
            }
        }
        return all;
    }

    int feed(int... numbers) {
        if (tape.size() > 680) {
            return NONE;
        }
        for (int v : numbers) {
            tape.add(v >>> 24);
            tape.add(v >>> 16 & 255);
            tape.add(v >>> 8 & 255);
            tape.add(v & 255);
        }
        return tape.size();
    }

    int mill(int mill, int n) {
        if (!in(mill, 0, 5) || !in(n, 0, tape.size())) {
            no(0);
            return -2;
        }
        StringBuilder b = new StringBuilder();
        for (int i = 0; i < n; i++) {
            b.append((char) (int) tape.get(i));
        }
        tape.clear();
        List<Token> tokens = tokens(b.toString());
        int bad = badToken(tokens);
        if (bad != NONE) {
            fault = bad == tokens.size() ? n : tokens.get(bad).place;
            return no(2);
        }
        fault = NONE;
        mills.put(mill, new Mill());
        world.gone += world.pond.getOrDefault(mill, 0L);
        world.pond.put(mill, 0L);
        world.ground.put(mill, new long[3]);
        images.clear();
        List<String> part = new ArrayList<>();
        int statements = 0;
        for (Token t : tokens) {
            if (t.text.equals(";")) {
                statement(mills.get(mill), part);
                part = new ArrayList<>();
                statements++;
            } else {
                part.add(t.text);
            }
        }
        return statements;
    }

    private static void statement(Mill m, List<String> part) {
        switch (part.get(0)) {
            case "wheel" -> {
                m.over = part.get(1).equals("over");
                m.size = Integer.parseInt(part.get(2));
                for (int i = 3; i < part.size(); i += 2) {
                    int v = Integer.parseInt(part.get(i + 1));
                    switch (part.get(i)) {
                        case "wide" -> m.wide = v;
                        case "buckets" -> m.many = v;
                        case "deep" -> m.deep = v;
                        case "slant" -> m.slant = v;
                        default -> m.degree = v;
                    }
                }
            }
            case "gate" -> {
                m.opens.add(Integer.parseInt(part.get(1)));
                m.conditions.add(part.size() < 3 ? List.of() : part.subList(3, part.size()));
            }
            case "pond" -> m.room = Integer.parseInt(part.get(1));
            case "nail" -> m.nail = Integer.parseInt(part.get(1));
            case "pace" -> m.pace = Integer.parseInt(part.get(1));
            default -> m.rub = Integer.parseInt(part.get(1));
        }
    }

    private static boolean holdsTrue(List<String> c, Map<String, Long> asked) {
        if (c.isEmpty()) {
            return true;
        }
        for (String join : new String[] {"or", "and"}) {
            int open = 0;
            for (int i = c.size() - 1; i >= 0; i--) {
                open += c.get(i).equals(")") ? 1 : c.get(i).equals("(") ? -1 : 0;
                if (open == 0 && c.get(i).equals(join)) {
                    boolean a = holdsTrue(c.subList(0, i), asked);
                    boolean b = holdsTrue(c.subList(i + 1, c.size()), asked);
                    return join.equals("or") ? a || b : a && b;
                }
            }
        }
        if (c.get(0).equals("not")) {
            return !holdsTrue(c.subList(1, c.size()), asked);
        }
        if (c.get(0).equals("(")) {
            return holdsTrue(c.subList(1, c.size() - 1), asked);
        }
        long v = asked.get(c.get(0));
        long n = Long.parseLong(c.get(2));
        return c.get(1).equals("<") ? v < n : c.get(1).equals(">") ? v > n : v == n;
    }

    int fault() {
        return fault;
    }

    int told(int mill, int what) {
        Mill m = mills.get(mill);
        if (m == null) {
            return NONE;
        }
        return switch (what) {
            case 0 -> m.over ? 1 : 0;
            case 1 -> m.size;
            case 2 -> m.wide;
            case 3 -> m.many;
            case 4 -> m.deep;
            case 5 -> m.slant;
            case 6 -> m.degree;
            case 7 -> m.room;
            case 8 -> m.nail;
            case 9 -> m.pace;
            case 10 -> m.rub;
            case 11 -> m.opens.size();
            case 12 -> m.over ? (int) cap(m) : NONE;
            case 13 -> (int) (long) world.pond.get(mill);
            case 14 -> (int) level(world, mill);
            case 15 -> (int) (long) world.way.getOrDefault(mill, 0L);
            case 16 -> m.over ? last(m) : NONE;
            default -> NONE;
        };
    }

    // ---- wheels

    static long sin(long a) {
        return cut(4000 * a * (180 - a), 40500 - a * (180 - a));
    }

    static long cos(long a) {
        return a <= 90 ? sin(a + 90) : 0 - sin(a - 90);
    }

    int sine(int degree, int what) {
        return !in(degree, 0, 180) || !in(what, 0, 1) ? -2000 : (int) (what == 0 ? sin(degree) : cos(degree));
    }

    private static long cap(Mill m) {
        return cut(times(12, m.wide, m.deep, m.size), m.many);
    }

    private static long offered(Mill m, long flow, long pace) {
        return cut(10 * flow, pace * m.many);
    }

    private static long splash(Mill m, long pace) {
        long above = m.many > 3 * m.size ? m.many - 3 * m.size : 0;
        return Math.min(100, 2 * above + cut(pace * m.size, 200));
    }

    private static long gets(Mill m, long flow, long pace) {
        return cut(offered(m, flow, pace) * (100 - splash(m, pace)), 100);
    }

    private static long thrown(Mill m, long pace) {
        return Math.min(1000, cut(pace * pace * m.size, 1000));
    }

    private static long holdsAt(Mill m, long pace, long degree) {
        long all = cut(cap(m) * (1000 - thrown(m, pace)), 1000);
        long above = 100 + 8L * m.slant - degree;
        return above <= 0 ? 0 : Math.min(all, cut(all * above, 60));
    }

    private static int last(Mill m) {
        int a = 0;
        while (a < 180 && holdsAt(m, m.pace, a) > 0) {
            a++;
        }
        return a;
    }

    private static List<Long> places(Mill m) {
        List<Long> all = new ArrayList<>();
        for (long k = 0; m.degree + cut(360 * k, m.many) < 180; k++) {
            all.add(m.degree + cut(360 * k, m.many));
        }
        return all;
    }

    private static List<Long> has(Mill m, long flow, long pace) {
        List<Long> all = new ArrayList<>();
        long had = gets(m, flow, pace);
        for (long p : places(m)) {
            had = Math.min(had, holdsAt(m, pace, p));
            all.add(had);
        }
        return all;
    }

    private static long push(Mill m, long flow, long pace) {
        long all = 0;
        for (int k = 0; k < places(m).size(); k++) {
            all += has(m, flow, pace).get(k) * sin(places(m).get(k));
        }
        return cut(all * m.size, 2000);
    }

    private static long bucketWork(Mill m, long flow, long pace) {
        List<Long> p = places(m);
        List<Long> h = has(m, flow, pace);
        long all = 0;
        for (int k = 0; k < p.size(); k++) {
            long next = k + 1 < p.size() ? p.get(k + 1) : 180;
            all += h.get(k) * (cos(p.get(k)) - cos(next));
        }
        return cut(times(all, m.size), 2);
    }

    private static long workOf(Mill m, long flow, long pace, long head) {
        if (m.over) {
            return cut(times(bucketWork(m, flow, pace), 6, pace, m.many), 1000);
        }
        long speed = BigInteger.valueOf(19200 * head).sqrt().longValueExact();
        long rim = cut(3 * m.size * pace, 10);
        return speed <= rim ? 0 : cut(times(flow, speed - rim, rim), 2880);
    }

    private static long yieldOf(Mill m, long flow, long pace, long head, long below) {
        long v = workOf(m, flow, pace, head) - 6 * pace * m.rub - cut(6 * pace * m.wide * below * below, 10);
        return v < 0 ? 0 : v;
    }

    private static long own(Mill m, long flow) {
        return yieldOf(m, flow, m.pace, 60, 0);
    }

    private Mill over(int mill) {
        Mill m = mills.get(mill);
        return m != null && m.over ? m : null;
    }

    private static boolean flowOk(long v) {
        return in(v, 0, 99999);
    }

    private static boolean paceOk(long v) {
        return in(v, 1, 300);
    }

    private static boolean headOk(Mill m, long v) {
        return m.over || in(v, 0, 240);
    }

    long bucket(int mill, int flow, int pace, int what) {
        Mill m = over(mill);
        if (m == null || !flowOk(flow) || !paceOk(pace)) {
            return NONE;
        }
        List<Long> h = has(m, flow, pace);
        return switch (what) {
            case 0 -> offered(m, flow, pace);
            case 1 -> splash(m, pace);
            case 2 -> gets(m, flow, pace);
            case 3 -> thrown(m, pace);
            case 4 -> h.size();
            case 5 -> push(m, flow, pace);
            case 6 -> bucketWork(m, flow, pace);
            default -> what >= 100 && what - 100 < h.size() ? h.get(what - 100) : NONE;
        };
    }

    int holds(int mill, int pace, int degree) {
        Mill m = over(mill);
        return m == null || !paceOk(pace) || !in(degree, 0, 180) ? NONE : (int) holdsAt(m, pace, degree);
    }

    long work(int mill, int flow, int pace, int head) {
        Mill m = mills.get(mill);
        return m == null || !flowOk(flow) || !paceOk(pace) || !headOk(m, head) ? NONE : workOf(m, flow, pace, head);
    }

    long gives(int mill, int flow, int pace, int head, int below) {
        Mill m = mills.get(mill);
        boolean ok = m != null && flowOk(flow) && paceOk(pace) && headOk(m, head) && in(below, 0, 100);
        return ok ? yieldOf(m, flow, pace, head, below) : NONE;
    }

    private static long bestPace(Mill m, long flow, long head, long below) {
        long best = 300;
        for (long p = 300; p >= 1; p--) {
            if (yieldOf(m, flow, p, head, below) >= yieldOf(m, flow, best, head, below)) {
                best = p;
            }
        }
        return best;
    }

    long best(int mill, int flow, int head, int below, int what) {
        Mill m = mills.get(mill);
        if (m == null || !flowOk(flow) || !headOk(m, head) || !in(below, 0, 100) || !in(what, 0, 1)) {
            return NONE;
        }
        long p = bestPace(m, flow, head, below);
        return what == 0 ? p : yieldOf(m, flow, p, head, below);
    }

    int parts(int mill, int flow, int fall) {
        Mill m = mills.get(mill);
        if (m == null || !in(flow, 1, 99999) || !in(fall, 1, 99)) {
            return NONE;
        }
        return (int) cut(own(m, flow) * 100, times(flow, 60, fall));
    }

    int grid(int mill, int least, int fall, int flows, int what) {
        Mill m = mills.get(mill);
        if (m == null || least < 2 || fall > 40 || least > fall || !in(flows, 0, 999999) || !in(what, 0, 2)) {
            return NONE;
        }
        long one = flows / 1000 * 100;
        long other = flows % 1000 * 100;
        List<long[]> all = new ArrayList<>();
        for (int size = least; size <= fall; size++) {
            for (int many = 4; many <= 80; many += 4) {
                Mill w = m.like(size, many);
                long first = own(w, one);
                all.add(new long[] {size, many, first, first + own(w, other)});
            }
        }
        long[] best = all.stream().sorted((a, b) -> Long.compare(b[3], a[3])).findFirst().get();
        return (int) (what < 2 ? best[what] : all.stream().filter(a -> a[2] > best[2]).count());
    }

    long model(int mill, int f, int flow, int what) {
        Mill m = over(mill);
        if (m == null || !in(f, 2, 10) || m.size * f > 40 || m.wide * f > 20 || m.deep * f > 24 || !flowOk(flow)
                || !in(what, 0, 1)) {
            return NONE;
        }
        if (what == 0) {
            return times(f, f, f, f, workOf(m, flow, m.pace, 0));
        }
        Mill w = m.like(m.size * f, m.many);
        w.wide *= f;
        w.deep *= f;
        return workOf(w, Math.min(99999, times(f, f, f, flow)), m.pace, 0);
    }

    // ---- days

    boolean day(int day, int flow, boolean ice) {
        if (!in(day, 0, 39) || !flowOk(flow)) {
            no(0);
            return false;
        }
        world.flow[day] = flow;
        world.ice[day] = ice;
        return true;
    }

    int flow(int day) {
        return in(day, 0, 39) ? (int) world.flow[day] : NONE;
    }

    private long level(World w, int mill) {
        return cut(w.pond.get(mill) * 100, mills.get(mill).room);
    }

    /** An hour; instead tells what a mill's gate stands open in place of its rules, NONE: its rules. */
    private Hour pass(World w, Map<Integer, IntUnaryOperator> instead) {
        Hour hour = new Hour();
        int day = (int) (w.hours / 24);
        int clock = (int) (w.hours % 24);
        Map<Integer, Long> levels = new HashMap<>();
        for (int i : mills.keySet()) {
            levels.put(i, level(w, i));
        }
        TreeMap<Integer, Long> on = new TreeMap<>();
        for (int i : mills.keySet()) {
            Mill m = mills.get(i);
            long comes;
            if (mills.lowerKey(i) == null) {
                comes = w.ice[day] ? 0 : cut(60 * w.flow[day], 100);
                w.came += comes;
            } else {
                comes = w.way.getOrDefault(mills.lowerKey(i), 0L);
            }
            hour.came.put(i, comes);
            long pond = w.pond.get(i) + comes;
            long go = 0;
            if (pond > m.room) {
                go = pond - m.room;
                pond = m.room;
            }
            long below = mills.higherKey(i) == null ? 0 : levels.get(mills.higherKey(i));
            long told = 0;
            Map<String, Long> asked = Map.of("hour", (long) clock, "level", cut(pond * 100, m.room), "flow", w.flow[day],
                    "day", (long) day, "below", below);
            for (int g = m.opens.size() - 1; g >= 0; g--) {
                told = holdsTrue(m.conditions.get(g), asked) ? m.opens.get(g) : told;
            }
            if (instead.containsKey(i)) {
                told = instead.get(i).applyAsInt(clock);
            }
            hour.told.put(i, told);
            long through = Math.min(told, pond);
            w.pond.put(i, pond - through);
            on.put(i, go + through);
            long wades = below > m.nail ? below - m.nail : 0;
            long y = yieldOf(m, Math.min(99999, cut(100 * through, 60)), m.pace, 60, wades);
            hour.ground.put(i, y);
            w.ground.get(i)[0] += y;
            w.ground.get(i)[1] += y > 0 ? 1 : 0;
            w.ground.get(i)[2] += through > 0 && wades > 0 ? 1 : 0;
        }
        w.gone += on.pollLastEntry().getValue();
        w.way = on;
        w.hours++;
        return hour;
    }

    int hours(int n) {
        if (!in(n, 1, 96) || mills.isEmpty()) {
            return no(0);
        }
        if (world.hours + n > 960) {
            return no(1);
        }
        for (int i = 0; i < n; i++) {
            pass(world, Map.of());
        }
        return (int) world.hours;
    }

    int flood(int day) {
        if (!in(day, 0, 39)) {
            return no(0);
        }
        BigInteger two64 = BigInteger.ONE.shiftLeft(64);
        world.z = world.z.multiply(new BigInteger("6364136223846793005")).add(new BigInteger("1442695040888963407"))
                .mod(two64);
        int drawn = world.z.shiftRight(33).mod(BigInteger.valueOf(100)).intValue();
        world.flow[day] = Math.min(99999, world.flow[day] * (drawn < 5 ? 10 : drawn < 15 ? 3 : 1));
        return (int) world.flow[day];
    }

    boolean seed(int v) {
        if (!in(v, 0, 999999999)) {
            no(0);
            return false;
        }
        world.z = BigInteger.valueOf(v);
        return true;
    }

    long ground(int mill, int what) {
        return mills.containsKey(mill) && in(what, 0, 2) ? world.ground.get(mill)[what] : NONE;
    }

    long water(int what) {
        return switch (what) {
            case 0 -> world.came;
            case 1 -> world.pond.values().stream().mapToLong(v -> v).sum();
            case 2 -> world.way.values().stream().mapToLong(v -> v).sum();
            case 3 -> world.gone;
            case 4 -> world.hours;
            default -> NONE;
        };
    }

    // ---- shifts

    private boolean left() {
        return world.hours <= 960 - 24;
    }

    private List<Integer> shifters() {
        return mills.keySet().stream().limit(3).toList();
    }

    private int[] digits(int way) {
        return new int[] {way / 16, way / 4 % 4, way % 4};
    }

    private List<Integer> ways() {
        List<Integer> all = new ArrayList<>();
        for (int way = 0; way < 64; way++) {
            boolean ok = true;
            for (int k = shifters().size(); k < 3; k++) {
                ok &= digits(way)[k] == 0;
            }
            if (ok) {
                all.add(way);
            }
        }
        return all;
    }

    private long[] tried(int hours, int open, int way) {
        Map<Integer, IntUnaryOperator> instead = new HashMap<>();
        for (int k = 0; k < shifters().size(); k++) {
            Set<Integer> opened = new LinkedHashSet<>();
            for (int h = 0; h < hours; h++) {
                opened.add((digits(way)[k] * 6 + h) % 24);
            }
            instead.put(shifters().get(k), clock -> opened.contains(clock) ? open : 0);
        }
        World w = world.copy();
        long[] all = new long[shifters().size()];
        for (int h = 0; h < 24; h++) {
            Hour hour = pass(w, instead);
            for (int k = 0; k < all.length; k++) {
                all[k] += hour.ground.get(shifters().get(k));
            }
        }
        return all;
    }

    private boolean shiftOk(int hours, int open) {
        return in(hours, 1, 12) && in(open, 0, 999) && !mills.isEmpty() && left();
    }

    long shift(int hours, int open, int way, int k) {
        if (!shiftOk(hours, open) || !ways().contains(way) || !in(k, 0, shifters().size() - 1)) {
            return NONE;
        }
        return tried(hours, open, way)[k];
    }

    int rests(int hours, int open, int k) {
        if (!shiftOk(hours, open) || k < -1) {
            return NONE;
        }
        Map<Integer, long[]> all = new HashMap<>();
        for (int way : ways()) {
            all.put(way, tried(hours, open, way));
        }
        List<Integer> rests = new ArrayList<>();
        for (int way : ways()) {
            boolean rest = true;
            for (int i = 0; i < shifters().size(); i++) {
                for (int other : ways()) {
                    int[] a = digits(way);
                    a[i] = digits(other)[i];
                    if (Arrays.equals(a, digits(other)) && all.get(other)[i] > all.get(way)[i]) {
                        rest = false;
                    }
                }
            }
            if (rest) {
                rests.add(way);
            }
        }
        return k == NONE ? rests.size() : k < rests.size() ? rests.get(k) : NONE;
    }

    int all(int hours, int open, int least) {
        if (!shiftOk(hours, open) || !in(least, 0, 999999999)) {
            return NONE;
        }
        for (int way : ways()) {
            if (Arrays.stream(tried(hours, open, way)).allMatch(v -> v >= least)) {
                return way;
            }
        }
        return NONE;
    }

    // ---- guilt and the rest

    boolean guilt(int mill, int weight) {
        if (!mills.containsKey(mill) || !in(weight, 0, 99)) {
            no(0);
            return false;
        }
        weights[mill] = weight;
        return true;
    }

    int seen(int mill, int level) {
        if (!mills.containsKey(mill) || !in(level, 0, 100)) {
            return no(0);
        }
        if (sights.size() == 30) {
            return no(1);
        }
        sights.add(new int[] {mill, level});
        return sights.size();
    }

    int raised(int mill) {
        if (!mills.containsKey(mill)) {
            return NONE;
        }
        BigInteger all = BigInteger.ZERO;
        BigInteger its = BigInteger.ZERO;
        for (int guilty : mills.keySet()) {
            BigInteger v = BigInteger.TEN.pow(14).multiply(BigInteger.valueOf(weights[guilty]));
            for (int[] s : sights) {
                boolean above = s[1] > mills.get(s[0]).nail;
                int tenths = s[0] == guilty && above || s[0] != guilty && !above ? 8 : 2;
                v = v.multiply(BigInteger.valueOf(tenths)).divide(BigInteger.TEN);
            }
            all = all.add(v);
            its = guilty == mill ? v : its;
        }
        return all.signum() == 0 ? NONE : its.multiply(BigInteger.valueOf(1000000)).divide(all).intValueExact();
    }

    int ruin(int pit, int sizes, int paces) {
        if (sizes < 0 || paces < 0 || !in(pit, 1, 20) || !in(sizes / 100, 2, 40) || !in(sizes % 100, sizes / 100, 40)
                || !in(paces / 1000, 1, 300) || !in(paces % 1000, paces / 1000, 300)) {
            return NONE;
        }
        int bits = 0;
        for (Map.Entry<Integer, Mill> e : mills.entrySet()) {
            Mill m = e.getValue();
            boolean may = m.wide <= pit && in(m.size, sizes / 100, sizes % 100) && in(m.pace, paces / 1000, paces % 1000);
            bits += may ? Math.pow(2, e.getKey()) : 0;
        }
        return bits;
    }

    int load(int v) {
        if (!in(v, 0, 9999)) {
            return no(0);
        }
        if (steps.size() == 24) {
            return no(1);
        }
        steps.add(v);
        return steps.size();
    }

    int rim() {
        if (steps.isEmpty()) {
            return NONE;
        }
        long even = cut(steps.stream().mapToLong(v -> v).sum(), steps.size());
        List<Long> surplus = new ArrayList<>(List.of(0L));
        for (long v : steps) {
            surplus.add(surplus.get(surplus.size() - 1) + even - v);
        }
        steps.clear();
        return (int) (surplus.stream().mapToLong(v -> v).max().getAsLong() - surplus.stream().mapToLong(v -> v).min().getAsLong());
    }

    int teeth(int one, int other, int what) {
        if (!in(one, 1, 400) || !in(other, 1, 400) || !in(what, 0, 1)) {
            return NONE;
        }
        int turns = 1;
        while (turns * one % other != 0) {
            turns++;
        }
        return what == 0 ? turns : turns == other ? 1 : 0;
    }

    int losses(int mill, int flow, int pace, int what) {
        Mill m = over(mill);
        if (m == null || !flowOk(flow) || !paceOk(pace) || !in(what, 0, 3)) {
            return NONE;
        }
        List<Long> h = has(m, flow, pace);
        long first = h.get(0);
        long last = h.get(h.size() - 1);
        long splashed = offered(m, flow, pace) - gets(m, flow, pace);
        long wasted = gets(m, flow, pace) - first;
        long spilt = first - last;
        long[] all = {splashed, wasted, spilt, offered(m, flow, pace) - splashed - wasted - spilt};
        return (int) all[what];
    }

    long night(int mill, int flow, int hours, int open, int what) {
        Mill m = mills.get(mill);
        if (m == null || !flowOk(flow) || !in(hours, 0, 23) || !in(open, 1, 999) || !in(what, 0, 2)) {
            return NONE;
        }
        long pond = 0;
        long through = 0;
        for (int h = 0; h < hours; h++) {
            pond = Math.min(m.room, pond + cut(60L * flow, 100));
        }
        boolean goesOn = true;
        for (int h = hours; h < 24 && goesOn; h++) {
            pond = Math.min(m.room, pond + cut(60L * flow, 100));
            goesOn = pond >= open;
            if (goesOn) {
                pond -= open;
                through++;
            }
        }
        return what == 0 ? through : what == 1 ? through * own(m, cut(100L * open, 60)) : pond;
    }

    int versus(int over, int under, int flow, int fall) {
        Mill a = over(over);
        Mill b = mills.get(under);
        if (a == null || b == null || b.over || !flowOk(flow) || !in(fall, 1, 99)) {
            return NONE;
        }
        long head = Math.min(240, 12L * fall);
        long one = yieldOf(a, flow, bestPace(a, flow, head, 0), head, 0);
        long other = yieldOf(b, flow, bestPace(b, flow, head, 0), head, 0);
        return one == 0 ? NONE : (int) Math.min(2000000000L, cut(other * 100, one));
    }

    int balance(int mill, int from, int many, int ice) {
        Mill m = mills.get(mill);
        if (m == null || !in(from, 0, m.many - 1) || !in(many, 1, m.many) || !in(ice, 1, 9999)) {
            return -2000000000;
        }
        long all = 0;
        int k = from;
        for (int i = 0; i < many; i++) {
            long a = cut(360L * k, m.many);
            all += ice * (a <= 180 ? sin(a) : 0 - sin(a - 180));
            k = k + 1 == m.many ? 0 : k + 1;
        }
        return (int) cut(all * m.size, 2000);
    }

    int fall(int feet, int price) {
        if (!in(feet, 2, 40) || !in(price, 1, 9999)) {
            return no(0);
        }
        if (falls.size() == 9) {
            return no(1);
        }
        falls.add(new int[] {feet, price});
        return falls.size();
    }

    long buy(int mill, int flow, int coins, int what) {
        Mill m = over(mill);
        if (m == null || !flowOk(flow) || !in(coins, 0, 99999) || !in(what, 0, 2)) {
            return NONE;
        }
        long[] best = null;
        for (int set = (1 << falls.size()) - 1; set >= 0; set--) {
            long price = 0;
            long y = 0;
            for (int i = 0; i < falls.size(); i++) {
                if ((set & 1 << i) != 0) {
                    price += falls.get(i)[1];
                    y += own(m.like(falls.get(i)[0], m.many), flow);
                }
            }
            if (price <= coins && (best == null || y >= best[1])) {
                best = new long[] {set, y, price};
            }
        }
        return best[what];
    }

    int sleep(int mill, int what) {
        if (!mills.containsKey(mill) || !in(what, 0, 1) || !left()) {
            return NONE;
        }
        World w = world.copy();
        List<Long> told = new ArrayList<>();
        for (int h = 0; h < 24; h++) {
            told.add(pass(w, Map.of()).told.get(mill));
        }
        for (int many = 24; many >= 1; many--) {
            for (int from = 0; from + many <= 24; from++) {
                if (told.subList(from, from + many).stream().distinct().count() == 1) {
                    return what == 0 ? many : from;
                }
            }
        }
        return NONE;
    }

    int comes(int mill) {
        if (!mills.containsKey(mill) || !left()) {
            return NONE;
        }
        World w = world.copy();
        for (int h = 0; h < 24; h++) {
            if (pass(w, Map.of()).came.get(mill) > 0) {
                return h;
            }
        }
        return NONE;
    }

    int order(int hours, int work) {
        if (!in(hours, 1, 24) || !in(work, 1, 999999999)) {
            return no(0);
        }
        if (orders.size() == 8) {
            return no(1);
        }
        orders.add(new int[] {hours, work});
        return orders.size();
    }

    int served(int mill, int open) {
        if (!mills.containsKey(mill) || !in(open, 0, 999) || !left()) {
            return NONE;
        }
        World w = world.copy();
        long[] ground = new long[25];
        for (int h = 1; h <= 24; h++) {
            ground[h] = ground[h - 1] + pass(w, Map.of(mill, clock -> open)).ground.get(mill);
        }
        List<Integer> by = new ArrayList<>();
        for (int i = 0; i < orders.size(); i++) {
            by.add(i);
        }
        by.sort((a, b) -> orders.get(a)[0] - orders.get(b)[0]);
        long due = 0;
        int bits = 0;
        for (int i : by) {
            due += orders.get(i)[1];
            bits |= ground[orders.get(i)[0]] >= due ? 1 << i : 0;
        }
        return bits;
    }

    int dry(int mill, int least, int k) {
        Mill m = mills.get(mill);
        if (m == null || k < -1) {
            return NONE;
        }
        List<Integer> days = new ArrayList<>();
        for (int d = 0; d < 40; d++) {
            if ((world.ice[d] ? 0 : own(m, world.flow[d])) < least) {
                days.add(d);
            }
        }
        return k == -1 ? days.size() : k < days.size() ? days.get(k) : NONE;
    }

    int image() {
        if (images.size() == 3) {
            return no(1);
        }
        images.add(world.copy());
        return images.size() - 1;
    }

    boolean restore(int image) {
        if (!in(image, 0, images.size() - 1)) {
            no(0);
            return false;
        }
        world = images.get(image).copy();
        return true;
    }

    int count(int what) {
        return switch (what) {
            case 0 -> mills.size();
            case 1 -> tape.size();
            case 2 -> images.size();
            case 3, 4, 5 -> (int) refused[what - 3];
            case 6 -> steps.size();
            case 7 -> sights.size();
            case 8 -> falls.size();
            case 9 -> orders.size();
            default -> NONE;
        };
    }
}
