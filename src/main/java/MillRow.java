import java.util.Arrays;

/** Water on wheels: mills in a row along a brook, as the project's document tells of them. */
public final class MillRow {
    /** There is none. */
    public static final int NONE = -1;

    private static final int MILLS = 6;
    private static final int DAYS = 40;
    private static final int DAY_HOURS = 24;
    private static final int MOST_HOURS = DAYS * DAY_HOURS;
    private static final int MOST_CALL_HOURS = 96;
    private static final int TAPE = 700;
    private static final int FED = 20;
    private static final int MOST_STATEMENTS = 30;
    private static final int MOST_NESTED = 9;
    private static final int MOST_PLACES = 40;

    private static final int MOST_FLOW = 99_999;
    private static final int MOST_PACE = 300;
    private static final int MOST_HEAD = 240;
    private static final int MOST_BELOW = 100;
    private static final int MOST_LEVEL = 100;
    private static final int MOST_OPEN = 999;
    private static final int MOST_WORK = 999_999_999;
    private static final int MOST_SEED = 999_999_999;
    private static final int MOST_COINS = 99_999;
    private static final int MOST_WEIGHT = 99;
    private static final int MOST_TEETH = 400;
    private static final int MOST_SHIFT_HOURS = 12;
    private static final int MOST_NUMBER = 9_999;
    private static final int LEAST_SIZE = 2;
    private static final int MOST_SIZE = 40;
    private static final int MOST_WIDE = 20;
    private static final int LEAST_MANY = 4;
    private static final int MOST_MANY = 80;
    private static final int MOST_DEEP = 24;
    private static final int MOST_SLANT = 9;
    private static final int MOST_AT = 90;
    private static final int MOST_DEGREE = 180;
    private static final int MOST_FALL = 99;
    private static final int MILL_HEAD = 60;

    private static final int SHIFTERS = 3;
    private static final int BEGINNINGS = 4;
    private static final int BEGINNING_HOURS = 6;
    private static final int WAYS = 64;

    private static final int MOST_IMAGES = 3;
    private static final int MOST_SEEN = 30;
    private static final int MOST_STEPS = 24;
    private static final int MOST_FALLS = 9;
    private static final int MOST_ORDERS = 8;

    private static final int NO_SINE = -2_000;
    private static final int NO_BALANCE = -2_000_000_000;
    private static final int MOST_VERSUS = 2_000_000_000;
    private static final int NO_MILL = -2;
    private static final long ODDS_WHOLE = 100_000_000_000_000L;

    private static final int NOT_AS_TOLD = 0;
    private static final int NO_ROOM = 1;
    private static final int FAULTY = 2;
    private static final int REASONS = 3;

    private final Reader reader = new Reader();
    private final Mill[] mills = new Mill[MILLS];
    private Mill spare = new Mill();
    private final Wheel scratch = new Wheel();
    private final Brook now = new Brook();
    private final Brook trial = new Brook();
    private final Brook[] images = new Brook[MOST_IMAGES];
    private int imageCount;
    private final Plan rulesOnly = new Plan();
    private final Plan plan = new Plan();
    private final long[] wayGround = new long[WAYS * SHIFTERS];
    private final int[] weights = new int[MILLS];
    private final Pairs sights = new Pairs(MOST_SEEN);
    private final Pairs steps = new Pairs(MOST_STEPS);
    private final Pairs falls = new Pairs(MOST_FALLS);
    private final long[] fallYields = new long[MOST_FALLS];
    private final Pairs orders = new Pairs(MOST_ORDERS);
    private final int[] refused = new int[REASONS];

    public MillRow() {
        for (int i = 0; i < MILLS; i++) {
            mills[i] = new Mill();
            weights[i] = 1;
        }
        for (int i = 0; i < MOST_IMAGES; i++) {
            images[i] = new Brook();
        }
    }

    // ---- the tape and the mills' texts

    public int feed(int a, int b, int c, int d, int e) {
        if (reader.onTape + FED > TAPE) {
            return NONE;
        }
        reader.append(a);
        reader.append(b);
        reader.append(c);
        reader.append(d);
        reader.append(e);
        return reader.onTape;
    }

    public int mill(int mill, int n) {
        if (!within(mill, 0, MILLS - 1) || !within(n, 0, reader.onTape)) {
            refuse(NOT_AS_TOLD);
            return NO_MILL;
        }
        int statements = reader.read(spare, n);
        if (statements == NONE) {
            return refuse(FAULTY);
        }
        Mill old = mills[mill];
        mills[mill] = spare;
        spare = old == null ? new Mill() : old;
        now.emptyMill(mill);
        imageCount = 0;
        return statements;
    }

    public int fault() {
        return reader.fault;
    }

    public int told(int mill, int what) {
        Mill m = toldMill(mill);
        if (m == null) {
            return NONE;
        }
        Wheel w = m.wheel;
        switch (what) {
            case 0: return w.over ? 1 : 0;
            case 1: return w.size;
            case 2: return w.wide;
            case 3: return w.many;
            case 4: return w.deep;
            case 5: return w.slant;
            case 6: return w.degree;
            case 7: return m.room;
            case 8: return m.nail;
            case 9: return w.pace;
            case 10: return w.rub;
            case 11: return m.rules.many;
            case 12: return w.over ? w.bucket.cap : NONE;
            case 13: return now.pond[mill];
            case 14: return m.levelOf(now.pond[mill]);
            case 15: return now.way[mill];
            case 16: return w.over ? w.bucket.lastDegree(w.pace) : NONE;
            default: return NONE;
        }
    }

    // ---- wheels

    public int sine(int degree, int what) {
        if (!within(degree, 0, MOST_DEGREE) || !within(what, 0, 1)) {
            return NO_SINE;
        }
        return what == 0 ? Circle.sin(degree) : Circle.cos(degree);
    }

    public long bucket(int mill, int flow, int pace, int what) {
        Wheel w = overWheel(mill);
        if (w == null || !isFlow(flow) || !isPace(pace)) {
            return NONE;
        }
        Bucket b = w.bucket;
        b.fill(flow, pace);
        switch (what) {
            case 0: return b.offered;
            case 1: return b.splash;
            case 2: return b.gets;
            case 3: return b.thrown;
            case 4: return b.places;
            case 5: return b.push();
            case 6: return b.dropWork();
            default: return within(what, 100, 99 + b.places) ? b.hasAt(what - 100) : NONE;
        }
    }

    public int holds(int mill, int pace, int degree) {
        Wheel w = overWheel(mill);
        if (w == null || !isPace(pace) || !within(degree, 0, MOST_DEGREE)) {
            return NONE;
        }
        w.bucket.spin(pace);
        return w.bucket.heldAt(degree);
    }

    public long work(int mill, int flow, int pace, int head) {
        Mill m = toldMill(mill);
        if (m == null || !isFlow(flow) || !isPace(pace) || !m.wheel.takesHead(head)) {
            return NONE;
        }
        return m.wheel.hourWork(flow, pace, head);
    }

    public long gives(int mill, int flow, int pace, int head, int below) {
        Mill m = toldMill(mill);
        if (m == null || !isFlow(flow) || !isPace(pace) || !m.wheel.takesHead(head) || !isBelow(below)) {
            return NONE;
        }
        return m.wheel.hourYield(flow, pace, head, below);
    }

    public long best(int mill, int flow, int head, int below, int what) {
        Mill m = toldMill(mill);
        if (m == null || !isFlow(flow) || !m.wheel.takesHead(head) || !isBelow(below) || !within(what, 0, 1)) {
            return NONE;
        }
        int pace = m.wheel.bestPace(flow, head, below);
        return what == 0 ? pace : m.wheel.hourYield(flow, pace, head, below);
    }

    public int parts(int mill, int flow, int fall) {
        Mill m = toldMill(mill);
        if (m == null || !within(flow, 1, MOST_FLOW) || !within(fall, 1, MOST_FALL)) {
            return NONE;
        }
        return (int) (m.wheel.millYield(flow) * 100 / (60L * flow * fall));
    }

    public int grid(int mill, int least, int fall, int flows, int what) {
        Mill m = toldMill(mill);
        if (m == null || least < LEAST_SIZE || fall > MOST_SIZE || least > fall
                || !within(flows, 0, 999_999) || !within(what, 0, 2)) {
            return NONE;
        }
        int firstFlow = flows / 1_000 * 100;
        int otherFlow = flows % 1_000 * 100;
        int bestSize = least;
        int bestMany = LEAST_MANY;
        long bestFirst = 0;
        long most = -1;
        for (int size = least; size <= fall; size++) {
            for (int many = LEAST_MANY; many <= MOST_MANY; many += LEAST_MANY) {
                scratch.becomesOver(m.wheel, size, many);
                long first = scratch.millYield(firstFlow);
                long both = first + scratch.millYield(otherFlow);
                if (both > most) {
                    most = both;
                    bestFirst = first;
                    bestSize = size;
                    bestMany = many;
                }
            }
        }
        if (what == 2) {
            return moreByOneFlow(m.wheel, least, fall, firstFlow, bestFirst);
        }
        return what == 0 ? bestSize : bestMany;
    }

    private int moreByOneFlow(Wheel like, int least, int fall, int flow, long bound) {
        int more = 0;
        for (int size = least; size <= fall; size++) {
            for (int many = LEAST_MANY; many <= MOST_MANY; many += LEAST_MANY) {
                scratch.becomesOver(like, size, many);
                if (scratch.millYield(flow) > bound) {
                    more++;
                }
            }
        }
        return more;
    }

    public long model(int mill, int f, int flow, int what) {
        Wheel w = overWheel(mill);
        if (w == null || !within(f, 2, 10) || !isFlow(flow) || !within(what, 0, 1)
                || w.size * f > MOST_SIZE || w.wide * f > MOST_WIDE || w.deep * f > MOST_DEEP) {
            return NONE;
        }
        if (what == 0) {
            return w.hourWork(flow, w.pace, 0) * f * f * f * f;
        }
        scratch.becomesLarger(w, f);
        return scratch.hourWork(Math.min(MOST_FLOW, f * f * f * flow), w.pace, 0);
    }

    // ---- days and hours

    public boolean day(int day, int flow, boolean ice) {
        if (!isDay(day) || !isFlow(flow)) {
            return refusal(NOT_AS_TOLD);
        }
        now.dayFlow[day] = flow;
        now.dayIce[day] = ice ? 1 : 0;
        return true;
    }

    public int flow(int day) {
        return isDay(day) ? now.dayFlow[day] : NONE;
    }

    public int hours(int n) {
        if (!within(n, 1, MOST_CALL_HOURS) || toldMills() == 0) {
            return refuse(NOT_AS_TOLD);
        }
        if (now.hoursGone + n > MOST_HOURS) {
            return refuse(NO_ROOM);
        }
        for (int i = 0; i < n; i++) {
            now.passHour(mills, rulesOnly);
        }
        return now.hoursGone;
    }

    public int flood(int day) {
        if (!isDay(day)) {
            return refuse(NOT_AS_TOLD);
        }
        now.dayFlow[day] = Math.min(MOST_FLOW, now.dayFlow[day] * now.drawTimes());
        return now.dayFlow[day];
    }

    public boolean seed(int v) {
        if (!within(v, 0, MOST_SEED)) {
            return refusal(NOT_AS_TOLD);
        }
        now.z = v;
        return true;
    }

    public long ground(int mill, int what) {
        if (toldMill(mill) == null) {
            return NONE;
        }
        switch (what) {
            case 0: return now.ground[mill];
            case 1: return now.groundHours[mill];
            case 2: return now.wadedHours[mill];
            default: return NONE;
        }
    }

    public long water(int what) {
        switch (what) {
            case 0: return now.came;
            case 1: return sum(now.pond);
            case 2: return sum(now.way);
            case 3: return now.gone;
            case 4: return now.hoursGone;
            default: return NONE;
        }
    }

    // ---- shifts

    public long shift(int hours, int open, int way, int k) {
        if (!isShift(hours, open) || !isWay(way) || !within(k, 0, shifters() - 1)) {
            return NONE;
        }
        tryWay(hours, open, way);
        return groundBy(way, k);
    }

    public int rests(int hours, int open, int k) {
        if (!isShift(hours, open) || k < NONE) {
            return NONE;
        }
        for (int way = 0; way < WAYS; way++) {
            if (isWay(way)) {
                tryWay(hours, open, way);
            }
        }
        int found = 0;
        for (int way = 0; way < WAYS; way++) {
            if (isWay(way) && isRest(way)) {
                if (found == k) {
                    return way;
                }
                found++;
            }
        }
        return k == NONE ? found : NONE;
    }

    public int all(int hours, int open, int least) {
        if (!isShift(hours, open) || !within(least, 0, MOST_WORK)) {
            return NONE;
        }
        int many = shifters();
        for (int way = 0; way < WAYS; way++) {
            if (!isWay(way)) {
                continue;
            }
            tryWay(hours, open, way);
            boolean enough = true;
            for (int k = 0; k < many; k++) {
                enough = enough && groundBy(way, k) >= least;
            }
            if (enough) {
                return way;
            }
        }
        return NONE;
    }

    private boolean isShift(int hours, int open) {
        return within(hours, 1, MOST_SHIFT_HOURS) && within(open, 0, MOST_OPEN) && shifters() > 0 && dayIsLeft();
    }

    private int shifters() {
        return Math.min(SHIFTERS, toldMills());
    }

    /** A mill that isn't there begins at 0. */
    private boolean isWay(int way) {
        return within(way, 0, WAYS - 1) && way % placeValue(shifters() - 1) == 0;
    }

    private static int placeValue(int k) {
        return k <= 0 ? 16 : k == 1 ? 4 : 1;
    }

    private static int beginningIn(int way, int k) {
        return way / placeValue(k) % BEGINNINGS;
    }

    private void tryWay(int hours, int open, int way) {
        plan.clear(hours, open);
        int k = 0;
        for (int i = 0; i < MILLS && k < SHIFTERS; i++) {
            if (toldMill(i) != null) {
                plan.begin[i] = BEGINNING_HOURS * beginningIn(way, k);
                k++;
            }
        }
        trial.become(now);
        for (int h = 0; h < DAY_HOURS; h++) {
            trial.passHour(mills, plan);
        }
        k = 0;
        for (int i = 0; i < MILLS && k < SHIFTERS; i++) {
            int row = way * SHIFTERS + k;
            if (toldMill(i) != null && within(row, 0, wayGround.length - 1)) {
                wayGround[row] = trial.ground[i] - now.ground[i];
                k++;
            }
        }
    }

    private long groundBy(int way, int k) {
        int row = way * SHIFTERS + k;
        return within(row, 0, wayGround.length - 1) ? wayGround[row] : 0;
    }

    private boolean isRest(int way) {
        int many = shifters();
        for (int k = 0; k < many; k++) {
            int value = placeValue(k);
            int without = way - beginningIn(way, k) * value;
            for (int b = 0; b < BEGINNINGS; b++) {
                if (groundBy(without + b * value, k) > groundBy(way, k)) {
                    return false;
                }
            }
        }
        return true;
    }

    // ---- guilt and ruins

    public boolean guilt(int mill, int weight) {
        if (toldMill(mill) == null || !within(weight, 0, MOST_WEIGHT)) {
            return refusal(NOT_AS_TOLD);
        }
        weights[mill] = weight;
        return true;
    }

    public int seen(int mill, int level) {
        return toldMill(mill) != null && within(level, 0, MOST_LEVEL) ? noted(sights, mill, level) : refuse(NOT_AS_TOLD);
    }

    public int raised(int mill) {
        if (toldMill(mill) == null) {
            return NONE;
        }
        long all = 0;
        for (int i = 0; i < MILLS; i++) {
            all += toldMill(i) == null ? 0 : weighs(i);
        }
        return all == 0 ? NONE : millionths(weighs(mill), all);
    }

    private long weighs(int guilty) {
        long weight = within(guilty, 0, MILLS - 1) ? ODDS_WHOLE * weights[guilty] : 0;
        for (int i = 0; i < sights.many; i++) {
            Mill m = toldMill(sights.firstAt(i));
            if (m != null) {
                boolean above = sights.secondAt(i) > m.nail;
                boolean likely = (sights.firstAt(i) == guilty) == above;
                weight = weight * (likely ? 8 : 2) / 10;
            }
        }
        return weight;
    }

    /** Digit by digit, as the part times a million would not fit. */
    private static int millionths(long part, long all) {
        if (all <= 0) {
            return NONE;
        }
        long answer = part / all;
        long rest = part % all;
        for (int i = 0; i < 6; i++) {
            rest *= 10;
            answer = answer * 10 + rest / all;
            rest %= all;
        }
        return (int) answer;
    }

    public int ruin(int pit, int sizes, int paces) {
        int leastSize = sizes / 100;
        int mostSize = sizes % 100;
        int leastPace = paces / 1_000;
        int mostPace = paces % 1_000;
        if (!within(pit, 1, MOST_WIDE) || leastSize < LEAST_SIZE || mostSize > MOST_SIZE || leastSize > mostSize
                || leastPace < 1 || mostPace > MOST_PACE || leastPace > mostPace) {
            return NONE;
        }
        int bits = 0;
        for (int i = 0; i < MILLS; i++) {
            Mill m = toldMill(i);
            if (m != null && m.wheel.wide <= pit && within(m.wheel.size, leastSize, mostSize)
                    && within(m.wheel.pace, leastPace, mostPace)) {
                bits |= 1 << i;
            }
        }
        return bits;
    }

    // ---- rims and teeth

    public int load(int v) {
        return within(v, 0, MOST_NUMBER) ? noted(steps, v, 0) : refuse(NOT_AS_TOLD);
    }

    public int rim() {
        if (steps.many <= 0) {
            return NONE;
        }
        int loads = 0;
        for (int i = 0; i < steps.many; i++) {
            loads += steps.firstAt(i);
        }
        int even = loads / steps.many;
        int surplus = 0;
        int least = 0;
        int most = 0;
        for (int i = 0; i < steps.many; i++) {
            surplus += even - steps.firstAt(i);
            least = Math.min(least, surplus);
            most = Math.max(most, surplus);
        }
        steps.many = 0;
        return most - least;
    }

    public int teeth(int one, int other, int what) {
        if (!within(one, 1, MOST_TEETH) || !within(other, 1, MOST_TEETH) || !within(what, 0, 1)) {
            return NONE;
        }
        int shared = 1;
        for (int i = 2; i <= one && i <= other; i++) {
            if (one % i == 0 && other % i == 0) {
                shared = i;
            }
        }
        if (what == 1) {
            return shared == 1 ? 1 : 0;
        }
        return other / shared;
    }

    // ---- losses, nights, comparing, ice

    public int losses(int mill, int flow, int pace, int what) {
        Wheel w = overWheel(mill);
        if (w == null || !isFlow(flow) || !isPace(pace)) {
            return NONE;
        }
        Bucket b = w.bucket;
        b.fill(flow, pace);
        int first = b.hasAt(0);
        int last = b.hasAt(b.places - 1);
        switch (what) {
            case 0: return b.offered - b.gets;
            case 1: return b.gets - first;
            case 2: return first - last;
            case 3: return last;
            default: return NONE;
        }
    }

    public long night(int mill, int flow, int hours, int open, int what) {
        Mill m = toldMill(mill);
        if (m == null || !isFlow(flow) || !within(hours, 0, DAY_HOURS - 1) || !within(open, 1, MOST_OPEN)
                || !within(what, 0, 2)) {
            return NONE;
        }
        int comes = 60 * flow / 100;
        int pond = 0;
        for (int h = 0; h < hours; h++) {
            pond = Math.min(m.room, pond + comes);
        }
        int through = 0;
        for (int h = hours; h < DAY_HOURS; h++) {
            pond = Math.min(m.room, pond + comes);
            if (pond < open) {
                break;
            }
            pond -= open;
            through++;
        }
        if (what == 1) {
            return through * m.wheel.millYield(100 * open / 60);
        }
        return what == 0 ? through : pond;
    }

    public int versus(int over, int under, int flow, int fall) {
        Wheel one = overWheel(over);
        Mill other = toldMill(under);
        if (one == null || other == null || other.wheel.over || !isFlow(flow) || !within(fall, 1, MOST_FALL)) {
            return NONE;
        }
        int head = Math.min(MOST_HEAD, 12 * fall);
        long whole = one.hourYield(flow, one.bestPace(flow, head, 0), head, 0);
        if (whole <= 0) {
            return NONE;
        }
        long part = other.wheel.hourYield(flow, other.wheel.bestPace(flow, head, 0), head, 0);
        return (int) Math.min(MOST_VERSUS, part * 100 / whole);
    }

    public int balance(int mill, int from, int many, int ice) {
        Mill m = toldMill(mill);
        if (m == null || m.wheel.many < 1 || !within(from, 0, m.wheel.many - 1) || !within(many, 1, m.wheel.many)
                || !within(ice, 1, MOST_NUMBER)) {
            return NO_BALANCE;
        }
        int buckets = m.wheel.many;
        long sines = 0;
        for (int i = 0; i < many; i++) {
            int degree = 360 * ((from + i) % buckets) / buckets;
            sines += degree > 180 ? -Circle.sin(degree - 180) : Circle.sin(degree);
        }
        return (int) (sines * ice * m.wheel.size / 2_000);
    }

    // ---- falls for sale

    public int fall(int feet, int price) {
        boolean asTold = within(feet, LEAST_SIZE, MOST_SIZE) && within(price, 1, MOST_NUMBER);
        return asTold ? noted(falls, feet, price) : refuse(NOT_AS_TOLD);
    }

    public long buy(int mill, int flow, int coins, int what) {
        Wheel w = overWheel(mill);
        if (w == null || !isFlow(flow) || !within(coins, 0, MOST_COINS) || !within(what, 0, 2)) {
            return NONE;
        }
        for (int i = 0; i < falls.many && i < fallYields.length; i++) {
            scratch.becomesOver(w, falls.firstAt(i), w.many);
            fallYields[i] = scratch.millYield(flow);
        }
        int best = 0;
        long most = 0;
        for (int set = 0; set < 1 << falls.many; set++) {
            long gain = setYield(set);
            if (gain > most && setPrice(set) <= coins) {
                best = set;
                most = gain;
            }
        }
        if (what == 0) {
            return best;
        }
        return what == 1 ? most : setPrice(best);
    }

    private long setYield(int set) {
        long all = 0;
        for (int i = 0; i < fallYields.length; i++) {
            all += (set >> i & 1) == 1 ? fallYields[i] : 0;
        }
        return all;
    }

    private int setPrice(int set) {
        int all = 0;
        for (int i = 0; i < falls.many; i++) {
            all += (set >> i & 1) == 1 ? falls.secondAt(i) : 0;
        }
        return all;
    }

    // ---- what 24 hours would bring

    public int sleep(int mill, int what) {
        if (toldMill(mill) == null || !within(what, 0, 1) || !dayIsLeft()) {
            return NONE;
        }
        trial.become(now);
        int same = NONE;
        int since = 0;
        int longest = 0;
        int first = 0;
        for (int h = 0; h < DAY_HOURS; h++) {
            trial.passHour(mills, rulesOnly);
            if (trial.opened[mill] != same) {
                same = trial.opened[mill];
                since = h;
            }
            if (h - since + 1 > longest) {
                longest = h - since + 1;
                first = since;
            }
        }
        return what == 0 ? longest : first;
    }

    public int comes(int mill) {
        if (toldMill(mill) == null || !dayIsLeft()) {
            return NONE;
        }
        trial.become(now);
        for (int h = 0; h < DAY_HOURS; h++) {
            trial.passHour(mills, rulesOnly);
            if (trial.coming[mill] > 0) {
                return h;
            }
        }
        return NONE;
    }

    public int order(int hours, int work) {
        boolean asTold = within(hours, 1, DAY_HOURS) && within(work, 1, MOST_WORK);
        return asTold ? noted(orders, hours, work) : refuse(NOT_AS_TOLD);
    }

    public int served(int mill, int open) {
        if (toldMill(mill) == null || !within(open, 0, MOST_OPEN) || !dayIsLeft()) {
            return NONE;
        }
        plan.clear(DAY_HOURS, open);
        plan.begin[mill] = 0;
        trial.become(now);
        long due = 0;
        int bits = 0;
        for (int h = 1; h <= DAY_HOURS; h++) {
            trial.passHour(mills, plan);
            long done = trial.ground[mill] - now.ground[mill];
            for (int i = 0; i < orders.many; i++) {
                if (orders.firstAt(i) == h) {
                    due += orders.secondAt(i);
                    bits |= due <= done ? 1 << i : 0;
                }
            }
        }
        return bits;
    }

    public int dry(int mill, int least, int k) {
        Mill m = toldMill(mill);
        if (m == null || k < NONE) {
            return NONE;
        }
        int found = 0;
        for (int day = 0; day < DAYS; day++) {
            long gain = now.dayIce[day] == 1 ? 0 : m.wheel.millYield(now.dayFlow[day]);
            if (gain < least) {
                if (found == k) {
                    return day;
                }
                found++;
            }
        }
        return k == NONE ? found : NONE;
    }

    // ---- images and counts

    public int image() {
        if (imageCount >= MOST_IMAGES || images[imageCount] == null) {
            return refuse(NO_ROOM);
        }
        images[imageCount].become(now);
        imageCount++;
        return imageCount - 1;
    }

    public boolean restore(int image) {
        if (!within(image, 0, imageCount - 1) || !within(image, 0, MOST_IMAGES - 1)) {
            return refusal(NOT_AS_TOLD);
        }
        now.become(images[image]);
        return true;
    }

    public int count(int what) {
        switch (what) {
            case 0: return toldMills();
            case 1: return reader.onTape;
            case 2: return imageCount;
            case 3: return refused[NOT_AS_TOLD];
            case 4: return refused[NO_ROOM];
            case 5: return refused[FAULTY];
            case 6: return steps.many;
            case 7: return sights.many;
            case 8: return falls.many;
            case 9: return orders.many;
            default: return NONE;
        }
    }

    // ---- what the calls share

    private static boolean within(int v, int least, int most) {
        return v >= least && v <= most;
    }

    private static boolean isFlow(int flow) {
        return within(flow, 0, MOST_FLOW);
    }

    private static boolean isPace(int pace) {
        return within(pace, 1, MOST_PACE);
    }

    private static boolean isBelow(int below) {
        return within(below, 0, MOST_BELOW);
    }

    private static boolean isDay(int day) {
        return within(day, 0, DAYS - 1);
    }

    private boolean dayIsLeft() {
        return now.hoursGone + DAY_HOURS <= MOST_HOURS;
    }

    private Mill toldMill(int mill) {
        Mill m = within(mill, 0, MILLS - 1) ? mills[mill] : null;
        return m != null && m.isTold ? m : null;
    }

    private Wheel overWheel(int mill) {
        Mill m = toldMill(mill);
        return m != null && m.wheel.over ? m.wheel : null;
    }

    private int toldMills() {
        int many = 0;
        for (int i = 0; i < MILLS; i++) {
            many += toldMill(i) == null ? 0 : 1;
        }
        return many;
    }

    private int noted(Pairs pairs, int one, int other) {
        return pairs.put(one, other) ? pairs.many : refuse(NO_ROOM);
    }

    private int refuse(int reason) {
        if (within(reason, 0, REASONS - 1)) {
            refused[reason]++;
        }
        return NONE;
    }

    private boolean refusal(int reason) {
        refuse(reason);
        return false;
    }

    private static long sum(int[] row) {
        long all = 0;
        for (int v : row) {
            all += v;
        }
        return all;
    }

    // ---- the classes inside

    /** SIN and COS in thousandths, by whole degrees from 0 to 180. */
    private static final class Circle {
        static int sin(int degree) {
            if (!within(degree, 0, MOST_DEGREE)) {
                return 0;
            }
            int both = degree * (MOST_DEGREE - degree);
            return 4_000 * both / (40_500 - both);
        }

        static int cos(int degree) {
            return degree <= 90 ? sin(degree + 90) : -sin(degree - 90);
        }
    }

    /** One bucket of a wheel over: what lies fast by the wheel, and what the latest flow and pace made of it. */
    private static final class Bucket {
        private int size;
        private int many = 1;
        private int slant;
        int cap;
        int places;
        private final int[] degree = new int[MOST_PLACES];
        private final int[] drop = new int[MOST_PLACES];
        int offered;
        int splash;
        int gets;
        int thrown;
        private int whole;
        private final int[] has = new int[MOST_PLACES];
        // by what the bucket was filled last: a day's hours ask for the same again and again
        private int filledFlow = NONE;
        private int filledPace = NONE;

        void settle(Wheel w) {
            size = w.size;
            many = Math.max(1, w.many);
            slant = w.slant;
            cap = 12 * w.wide * w.deep * size / many;
            places = 0;
            filledFlow = NONE;
            for (int k = 0; k < MOST_PLACES; k++) {
                int there = w.degree + 360 * k / many;
                if (there >= MOST_DEGREE) {
                    return;
                }
                int next = Math.min(MOST_DEGREE, w.degree + 360 * (k + 1) / many);
                degree[k] = there;
                drop[k] = Circle.cos(there) - Circle.cos(next);
                places = k + 1;
            }
        }

        void spin(int pace) {
            filledPace = NONE;
            thrown = Math.min(1_000, pace * pace * size / 1_000);
            whole = cap * (1_000 - thrown) / 1_000;
        }

        int heldAt(int at) {
            int held = whole * (100 + 8 * slant - at) / 60;
            return held < 0 ? 0 : held > whole ? whole : held;
        }

        int lastDegree(int pace) {
            spin(pace);
            for (int a = 0; a < MOST_DEGREE; a++) {
                if (heldAt(a) == 0) {
                    return a;
                }
            }
            return MOST_DEGREE;
        }

        void fill(int flow, int pace) {
            if (flow == filledFlow && pace == filledPace) {
                return;
            }
            offered = 10 * flow / Math.max(1, pace * many);
            splash = Math.min(100, 2 * Math.max(0, many - 3 * size) + pace * size / 200);
            gets = offered * (100 - splash) / 100;
            spin(pace);
            int had = gets;
            for (int k = 0; k < places && k < MOST_PLACES; k++) {
                had = Math.min(had, heldAt(degree[k]));
                has[k] = had;
            }
            filledFlow = flow;
            filledPace = pace;
        }

        int hasAt(int k) {
            return k >= 0 && k < has.length ? has[k] : 0;
        }

        long push() {
            long all = 0;
            for (int k = 0; k < places && k < MOST_PLACES; k++) {
                all += (long) has[k] * Circle.sin(degree[k]);
            }
            return all * size / 2_000;
        }

        /** Thousandths of pint-feet that the bucket works on its way down. */
        long dropWork() {
            long all = 0;
            for (int k = 0; k < places && k < MOST_PLACES; k++) {
                all += (long) has[k] * drop[k];
            }
            return all * size / 2;
        }
    }

    /** A wheel as told; settle() goes behind every change of its numbers. */
    private static final class Wheel {
        boolean over;
        int size;
        int wide;
        int many;
        int deep;
        int slant;
        int degree;
        int pace;
        int rub;
        final Bucket bucket = new Bucket();

        void forget() {
            slant = 4;
            degree = 10;
            pace = 50;
            rub = 0;
        }

        void becomesOver(Wheel like, int newSize, int newMany) {
            over = true;
            size = newSize;
            wide = like.wide;
            many = newMany;
            deep = like.deep;
            slant = like.slant;
            degree = like.degree;
            pace = like.pace;
            rub = like.rub;
            bucket.settle(this);
        }

        void becomesLarger(Wheel like, int f) {
            becomesOver(like, like.size * f, like.many);
            wide *= f;
            deep *= f;
            bucket.settle(this);
        }

        boolean takesHead(int head) {
            return over || within(head, 0, MOST_HEAD);
        }

        long hourWork(int flow, int byPace, int head) {
            if (flow == 0) {
                return 0;
            }
            if (!over) {
                return underWork(flow, byPace, head);
            }
            bucket.fill(flow, byPace);
            return bucket.dropWork() * 6 * byPace * many / 1_000;
        }

        private long underWork(int flow, int byPace, int head) {
            int rimSpeed = 3 * size * byPace / 10;
            long left = Math.max(0, root(19_200 * head) - rimSpeed);
            return flow * left * rimSpeed / 2_880;
        }

        /** The whole root of a number below 2 to the 24th. */
        private static int root(int v) {
            int answer = 0;
            for (int bit = 1 << 11; bit > 0; bit >>= 1) {
                int more = answer + bit;
                if (more * more <= v) {
                    answer = more;
                }
            }
            return answer;
        }

        long hourYield(int flow, int byPace, int head, int below) {
            long rubs = 6L * byPace * rub;
            long wades = 6L * byPace * wide * below * below / 10;
            return Math.max(0, hourWork(flow, byPace, head) - rubs - wades);
        }

        /** As a mill works: by its own pace, with the head of a mill, nothing below. */
        long millYield(int flow) {
            return hourYield(flow, pace, MILL_HEAD, 0);
        }

        int bestPace(int flow, int head, int below) {
            int best = 1;
            long most = -1;
            for (int p = 1; p <= MOST_PACE; p++) {
                long gain = hourYield(flow, p, head, below);
                if (gain > most) {
                    most = gain;
                    best = p;
                }
            }
            return best;
        }
    }

    private static final class Mill {
        boolean isTold;
        final Wheel wheel = new Wheel();
        int room;
        int nail;
        final Rules rules = new Rules();

        void forget() {
            isTold = false;
            wheel.forget();
            room = 100;
            nail = MOST_LEVEL;
            rules.clear();
        }

        void settle() {
            isTold = true;
            wheel.bucket.settle(wheel);
        }

        int levelOf(int pond) {
            return room < 1 ? 0 : pond * 100 / room;
        }
    }

    /** The rules of a gate; a condition stands as codes, what is joined before what joins it. */
    private static final class Rules {
        static final int NOT = -1;
        static final int AND = -2;
        static final int OR = -3;
        static final int HOUR = 0;
        static final int LEVEL = 1;
        static final int FLOW = 2;
        static final int DAY = 3;
        static final int BELOW = 4;
        private static final int WORDS = 5;
        static final int LESS = 0;
        static final int MORE = 1;
        static final int SAME = 2;
        private static final int SIGNS = 3;
        private static final int NUMBERS = MOST_NUMBER + 1;

        private final int[] codes = new int[TAPE];
        private int codeCount;
        private final int[] opens = new int[MOST_STATEMENTS];
        private final int[] ends = new int[MOST_STATEMENTS];
        int many;
        private final int[] asked = new int[WORDS];

        void clear() {
            codeCount = 0;
            many = 0;
        }

        boolean put(int code) {
            if (codeCount >= codes.length) {
                return false;
            }
            codes[codeCount] = code;
            codeCount++;
            return true;
        }

        boolean putCompare(int word, int sign, int number) {
            return put((word * SIGNS + sign) * NUMBERS + number);
        }

        /** The codes put since the gate before are this one's condition. */
        boolean closeGate(int open) {
            if (many >= opens.length) {
                return false;
            }
            opens[many] = open;
            ends[many] = codeCount;
            many++;
            return true;
        }

        int tells(int hour, int level, int flow, int day, int below) {
            asked[HOUR] = hour;
            asked[LEVEL] = level;
            asked[FLOW] = flow;
            asked[DAY] = day;
            asked[BELOW] = below;
            int from = 0;
            for (int i = 0; i < many && i < opens.length; i++) {
                if (allows(from, ends[i])) {
                    return opens[i];
                }
                from = ends[i];
            }
            return 0;
        }

        /** The stack is a number's bits, the top the lowest: some twenty are open at most. */
        private boolean allows(int from, int to) {
            long stack = from == to ? 1 : 0;
            for (int i = Math.max(0, from); i < to && i < codes.length; i++) {
                int code = codes[i];
                if (code == NOT) {
                    stack ^= 1;
                } else if (code == AND) {
                    stack = stack >> 1 & (stack | ~1L);
                } else if (code == OR) {
                    stack = stack >> 1 | stack & 1;
                } else {
                    stack = stack << 1 | (compares(code) ? 1 : 0);
                }
            }
            return (stack & 1) == 1;
        }

        private boolean compares(int code) {
            int number = code % NUMBERS;
            int sign = code / NUMBERS % SIGNS;
            int word = code / NUMBERS / SIGNS;
            int value = word >= 0 && word < asked.length ? asked[word] : 0;
            return sign == LESS ? value < number : sign == MORE ? value > number : value == number;
        }
    }

    /** The tape, and the reading of a mill's text on it. */
    private static final class Reader {
        private static final int END = 0;
        private static final int WORD = 1;
        private static final int NUMBER = 2;
        private static final int SIGN = 3;
        private static final int BLANK = 4;
        private static final int OTHER = 5;
        private static final int MOST_DIGITS = 4;

        private final int[] tape = new int[TAPE];
        int onTape;
        int fault = NONE;
        private final int[] kinds = new int[TAPE + 1];
        private final int[] starts = new int[TAPE + 1];
        private final int[] ends = new int[TAPE + 1];
        // the token that the reading stands before, and the latest number behind it
        private int token;
        private int kind;
        private int start;
        private int end;
        private int value;

        void append(int four) {
            for (int shift = 24; shift >= 0 && onTape < TAPE; shift -= 8) {
                tape[onTape] = four >> shift & 255;
                onTape++;
            }
        }

        /** How many statements; NONE: with the token before which the reading stands, no such text goes on. */
        int read(Mill mill, int length) {
            split(Math.min(length, onTape));
            onTape = 0;
            fault = NONE;
            mill.forget();
            boolean well = takesWheel(mill.wheel);
            for (int statements = 1; well && statements <= MOST_STATEMENTS; statements++) {
                if (kind == END) {
                    mill.settle();
                    return statements;
                }
                well = statements < MOST_STATEMENTS && takesStatement(mill);
            }
            fault = start;
            return NONE;
        }

        private void split(int length) {
            int many = 0;
            int next = 0;
            for (int i = 0; i < length && i < TAPE; i = next) {
                int itsKind = kindOf(tape[i]);
                boolean isLong = itsKind == WORD || itsKind == NUMBER;
                next = i + 1;
                while (isLong && next < length && next < TAPE && kindOf(tape[next]) == itsKind) {
                    next++;
                }
                if (itsKind != BLANK && many < TAPE) {
                    kinds[many] = itsKind;
                    starts[many] = i;
                    ends[many] = next;
                    many++;
                }
            }
            kinds[many] = END;
            starts[many] = length;
            ends[many] = length;
            token = NONE;
            step();
        }

        private static int kindOf(int b) {
            if (b == 32 || b == 10) {
                return BLANK;
            }
            if (b >= 'a' && b <= 'z') {
                return WORD;
            }
            if (b >= '0' && b <= '9') {
                return NUMBER;
            }
            boolean sign = b == ';' || b == '(' || b == ')' || b == '<' || b == '>' || b == '=';
            return sign ? SIGN : OTHER;
        }

        private void step() {
            token++;
            if (token >= 0 && token < kinds.length) {
                kind = kinds[token];
                start = starts[token];
                end = ends[token];
            }
        }

        private boolean isWord(String word) {
            if (kind != WORD || end - start != word.length()) {
                return false;
            }
            for (int i = 0; i < word.length(); i++) {
                int place = start + i;
                if (place < 0 || place >= TAPE || tape[place] != word.charAt(i)) {
                    return false;
                }
            }
            return true;
        }

        private boolean isSign(int sign) {
            return kind == SIGN && start >= 0 && start < TAPE && tape[start] == sign;
        }

        private boolean takesWord(String word) {
            if (!isWord(word)) {
                return false;
            }
            step();
            return true;
        }

        private boolean takesSign(int sign) {
            if (!isSign(sign)) {
                return false;
            }
            step();
            return true;
        }

        private boolean takesNumber(int least, int most) {
            if (kind != NUMBER || end - start > MOST_DIGITS) {
                return false;
            }
            int number = 0;
            for (int i = Math.max(0, start); i < end && i < TAPE; i++) {
                number = number * 10 + tape[i] - '0';
            }
            if (number < least || number > most) {
                return false;
            }
            value = number;
            step();
            return true;
        }

        private boolean takesWheel(Wheel w) {
            if (!takesWord("wheel")) {
                return false;
            }
            w.over = takesWord("over");
            if (!w.over && !takesWord("under") || !takesNumber(LEAST_SIZE, MOST_SIZE)) {
                return false;
            }
            w.size = value;
            if (!takesWord("wide") || !takesNumber(1, MOST_WIDE)) {
                return false;
            }
            w.wide = value;
            if (!takesWord("buckets") || !takesNumber(LEAST_MANY, MOST_MANY)) {
                return false;
            }
            w.many = value;
            if (!takesWord("deep") || !takesNumber(1, MOST_DEEP)) {
                return false;
            }
            w.deep = value;
            if (takesWord("slant")) {
                if (!takesNumber(0, MOST_SLANT)) {
                    return false;
                }
                w.slant = value;
            }
            if (takesWord("at")) {
                if (!takesNumber(0, MOST_AT)) {
                    return false;
                }
                w.degree = value;
            }
            return takesSign(';');
        }

        private boolean takesStatement(Mill mill) {
            boolean well;
            if (takesWord("pond")) {
                well = takesNumber(1, MOST_NUMBER);
                mill.room = value;
            } else if (takesWord("nail")) {
                well = takesNumber(0, MOST_LEVEL);
                mill.nail = value;
            } else if (takesWord("pace")) {
                well = takesNumber(1, MOST_PACE);
                mill.wheel.pace = value;
            } else if (takesWord("rub")) {
                well = takesNumber(0, MOST_NUMBER);
                mill.wheel.rub = value;
            } else if (takesWord("gate")) {
                well = takesNumber(0, MOST_OPEN);
                int open = value;
                well = well && (!takesWord("if") || takesAny(mill.rules, 0)) && mill.rules.closeGate(open);
            } else {
                return false;
            }
            return well && takesSign(';');
        }

        private boolean takesAny(Rules rules, int nested) {
            boolean well = takesAll(rules, nested);
            for (int i = 0; i < TAPE && well && takesWord("or"); i++) {
                well = takesAll(rules, nested) && rules.put(Rules.OR);
            }
            return well;
        }

        private boolean takesAll(Rules rules, int nested) {
            boolean well = takesOne(rules, nested);
            for (int i = 0; i < TAPE && well && takesWord("and"); i++) {
                well = takesOne(rules, nested) && rules.put(Rules.AND);
            }
            return well;
        }

        private boolean takesOne(Rules rules, int nested) {
            boolean not = isWord("not");
            if (not || isSign('(')) {
                if (nested >= MOST_NESTED) {
                    return false;
                }
                step();
                return not ? takesOne(rules, nested + 1) && rules.put(Rules.NOT)
                        : takesAny(rules, nested + 1) && takesSign(')');
            }
            int word = takesWord("hour") ? Rules.HOUR : takesWord("level") ? Rules.LEVEL
                    : takesWord("flow") ? Rules.FLOW : takesWord("day") ? Rules.DAY
                    : takesWord("below") ? Rules.BELOW : NONE;
            if (word == NONE) {
                return false;
            }
            int sign = takesSign('<') ? Rules.LESS : takesSign('>') ? Rules.MORE
                    : takesSign('=') ? Rules.SAME : NONE;
            return sign != NONE && takesNumber(0, MOST_NUMBER) && rules.putCompare(word, sign, value);
        }
    }

    /** In place of their rules, some mills' gates stand open so many hours from an hour on. */
    private static final class Plan {
        final int[] begin = new int[MILLS];
        private int hours;
        private int open;

        Plan() {
            Arrays.fill(begin, NONE);
        }

        void clear(int newHours, int newOpen) {
            Arrays.fill(begin, NONE);
            hours = newHours;
            open = newOpen;
        }

        /** NONE: the mill goes by its rules. */
        int opens(int mill, int hour) {
            if (mill < 0 || mill >= begin.length || begin[mill] == NONE) {
                return NONE;
            }
            return Math.floorMod(hour - begin[mill], DAY_HOURS) < hours ? open : 0;
        }
    }

    /** The brook with its days, and how the hours have gone by. */
    private static final class Brook {
        int hoursGone;
        long came;
        long gone;
        long z = 1;
        final int[] dayFlow = new int[DAYS];
        final int[] dayIce = new int[DAYS];
        final int[] pond = new int[MILLS];
        final int[] way = new int[MILLS];
        final long[] ground = new long[MILLS];
        final int[] groundHours = new int[MILLS];
        final int[] wadedHours = new int[MILLS];
        // of the latest hour alone, so no part of an image
        final int[] coming = new int[MILLS];
        final int[] opened = new int[MILLS];
        private final int[] below = new int[MILLS];

        void become(Brook other) {
            if (other == null) {
                return;
            }
            hoursGone = other.hoursGone;
            came = other.came;
            gone = other.gone;
            z = other.z;
            System.arraycopy(other.dayFlow, 0, dayFlow, 0, DAYS);
            System.arraycopy(other.dayIce, 0, dayIce, 0, DAYS);
            System.arraycopy(other.pond, 0, pond, 0, MILLS);
            System.arraycopy(other.way, 0, way, 0, MILLS);
            System.arraycopy(other.ground, 0, ground, 0, MILLS);
            System.arraycopy(other.groundHours, 0, groundHours, 0, MILLS);
            System.arraycopy(other.wadedHours, 0, wadedHours, 0, MILLS);
        }

        void emptyMill(int mill) {
            if (!within(mill, 0, MILLS - 1)) {
                return;
            }
            gone += pond[mill];
            pond[mill] = 0;
            ground[mill] = 0;
            groundHours[mill] = 0;
            wadedHours[mill] = 0;
        }

        int drawTimes() {
            z = z * 6_364_136_223_846_793_005L + 1_442_695_040_888_963_407L;
            long drawn = (z >>> 33) % 100;
            return drawn < 5 ? 10 : drawn < 15 ? 3 : 1;
        }

        private int today() {
            return Math.max(0, Math.min(DAYS - 1, hoursGone / DAY_HOURS));
        }

        void passHour(Mill[] mills, Plan plan) {
            int last = lookBelow(mills);
            int comes = dayIce[today()] == 1 ? 0 : 60 * dayFlow[today()] / 100;
            came += comes;
            for (int i = 0; i <= last && i < MILLS && i < mills.length; i++) {
                Mill m = mills[i];
                if (m != null && m.isTold) {
                    coming[i] = comes;
                    comes = way[i];
                    way[i] = passMill(m, i, plan);
                }
            }
            if (within(last, 0, MILLS - 1)) {
                gone += way[last];
                way[last] = 0;
            }
            hoursGone++;
        }

        /** Notes for each mill how high the next one's pond stands; answers which mill is the last. */
        private int lookBelow(Mill[] mills) {
            int last = NONE;
            int level = 0;
            for (int i = MILLS - 1; i >= 0; i--) {
                Mill m = i < mills.length ? mills[i] : null;
                if (m != null && m.isTold) {
                    last = last == NONE ? i : last;
                    below[i] = level;
                    level = m.levelOf(pond[i]);
                }
            }
            return last;
        }

        /** Answers what goes on, over the pond's brim and through the gate. */
        private int passMill(Mill m, int i, Plan plan) {
            if (!within(i, 0, MILLS - 1)) {
                return 0;
            }
            int over = Math.max(0, pond[i] + coming[i] - m.room);
            int stands = pond[i] + coming[i] - over;
            int hour = hoursGone % DAY_HOURS;
            int open = plan.opens(i, hour);
            if (open == NONE) {
                open = m.rules.tells(hour, m.levelOf(stands), dayFlow[today()], today(), below[i]);
            }
            opened[i] = open;
            int through = Math.min(open, stands);
            pond[i] = stands - through;

            int wades = Math.max(0, below[i] - m.nail);
            int flow = Math.min(MOST_FLOW, 100 * through / 60);
            long grinds = m.wheel.hourYield(flow, m.wheel.pace, MILL_HEAD, wades);
            ground[i] += grinds;
            groundHours[i] += grinds > 0 ? 1 : 0;
            wadedHours[i] += through > 0 && wades > 0 ? 1 : 0;
            return over + through;
        }
    }

    /** Up to so many pairs of numbers in the order told. */
    private static final class Pairs {
        private final int[] first;
        private final int[] second;
        int many;

        Pairs(int most) {
            first = new int[Math.max(0, most)];
            second = new int[Math.max(0, most)];
        }

        boolean put(int one, int other) {
            if (many < 0 || many >= first.length) {
                return false;
            }
            first[many] = one;
            second[many] = other;
            many++;
            return true;
        }

        int firstAt(int i) {
            return i >= 0 && i < first.length ? first[i] : 0;
        }

        int secondAt(int i) {
            return i >= 0 && i < second.length ? second[i] : 0;
        }
    }
}
