/** Edges of promises 6 to 14, 31, 32, 34 and 35: what single wheels do, hold, give and lose. */
final class EdgesOfWheels extends Edges {
    private static final String FLOW = "By a FLOW (pints a minute, 0 to 99,999)";
    private static final String PACES = "PACE 1 to 300 (tenths of turns a minute)";
    private static final String HEAD = "HEAD (inches 0 to 240)";
    private static final String BELOW = "BELOW (inches 0 to 100, in which the wheel wades)";
    private static final String NONE_SUCH = "NONE: none such.";

    static void all() {
        sine();
        bucketArguments();
        bucketNumbers();
        bucketPlaces();
        bucketTogether();
        holds();
        workOver();
        workUnder();
        gives();
        best();
        parts();
        gridArguments();
        gridAnswers();
        model();
        teeth();
        losses();
        versus();
        balance();
    }

    /** WORK an hour of a wheel over (SIZE, WIDE, MANY, DEEP, SLANT, DEGREE), in the document's own words. */
    private static long overWork(int[] w, int flow, int pace) {
        int size = w[0];
        int many = w[2];
        long cap = 12L * w[1] * w[3] * size / many;
        long splash = Math.min(100, 2 * Math.max(0, many - 3 * size) + pace * size / 200);
        long thrown = Math.min(1000, pace * pace * size / 1000);
        long whole = cap * (1000 - thrown) / 1000;
        long has = 10L * flow / (pace * many) * (100 - splash) / 100;
        long all = 0;
        for (int k = 0; w[5] + 360 * k / many < 180; k++) {
            int there = w[5] + 360 * k / many;
            int next = Math.min(180, w[5] + 360 * (k + 1) / many);
            has = Math.min(has, Math.max(0, Math.min(whole, whole * (100 + 8 * w[4] - there) / 60)));
            all += has * (cos(there) - cos(next));
        }
        return all * size / 2 * 6 * pace * many / 1000;
    }

    private static long overYield(int[] w, int flow, int pace, int rub) {
        return Math.max(0, overWork(w, flow, pace) - 6L * pace * rub);
    }

    private static String over(int[] w) {
        return "wheel over " + w[0] + " wide " + w[1] + " buckets " + w[2] + " deep " + w[3] + " slant " + w[4] + " at " + w[5] + ";";
    }

    private static void sine() {
        promise(6);
        edge("SIN of a degree a (0 to 180)", () -> {
            MillRow x = new MillRow();
            range("SIN", 0, 180, -2000, a -> x.sine(a, 0));
            range("COS", 0, 180, -2000, a -> x.sine(a, 1));
        });
        edge("-2,000: none such.", () -> {
            MillRow x = new MillRow();
            range("sine of 5", 0, 1, -2000, what -> x.sine(5, what));
            range("sine of 180", 0, 1, -2000, what -> x.sine(180, what));
            due("no refusal", x.count(3), 0);
        });
        edge("4,000 times a times (180 less a) by (40,500 less a times (180 less a)), cut.", () -> {
            MillRow x = new MillRow();
            int[] degrees = {0, 1, 2, 30, 89, 90, 91, 179, 180};
            int[] sines = {0, 17, 35, 500, 999, 1000, 999, 17, 0};
            for (int i = 0; i < degrees.length; i++) {
                due("SIN of " + degrees[i], x.sine(degrees[i], 0), sines[i]);
            }
            for (int a = 0; a <= 180; a++) {
                due("SIN of " + a, x.sine(a, 0), sin(a));
            }
        });
        edge("SIN of a and 90 up to 90; beyond that less SIN of a less 90 (0 less it).", () -> {
            MillRow x = new MillRow();
            int[] degrees = {0, 1, 89, 90, 91, 92, 150, 179, 180};
            int[] cosines = {1000, 999, 17, 0, -17, -35, -864, -999, -1000};
            for (int i = 0; i < degrees.length; i++) {
                due("COS of " + degrees[i], x.sine(degrees[i], 1), cosines[i]);
            }
            for (int a = 0; a <= 180; a++) {
                due("COS of " + a, x.sine(a, 1), a <= 90 ? x.sine(a + 90, 0) : -x.sine(a - 90, 0));
            }
        });
    }

    private static void bucketArguments() {
        promise(7);
        edge(FLOW, () -> {
            MillRow x = with(BASE);
            range("OFFERED by FLOW", 0, 99_999, flow -> x.bucket(0, flow, 50, 0));
            range("HAS by FLOW", 0, 99_999, flow -> x.bucket(0, flow, 50, 100));
            due("OFFERED by 0", x.bucket(0, 0, 50, 0), 0);
            due("OFFERED by 99,999", x.bucket(0, 99_999, 50, 0), 999);
        });
        edge("By FLOW and PACE (1 to 300) of a wheel over", () -> {
            MillRow x = with(BASE, UNDER);
            range("SPLASH by PACE", 1, 300, pace -> x.bucket(0, 6000, pace, 1));
            due("OFFERED by PACE 1", x.bucket(0, 6000, 1, 0), 3000);
            due("OFFERED by PACE 300", x.bucket(0, 6000, 300, 0), 10);
            for (int what = 0; what <= 6; what++) {
                int asked = what;
                mills("bucket " + what, NONE, mill -> x.bucket(mill, 6000, 50, asked), 0);
            }
            mills("HAS", NONE, mill -> x.bucket(mill, 6000, 50, 100), 0);
        });
        edge("100 + k HAS at PLACE k. NONE: none such.", () -> {
            MillRow x = with(BASE, "wheel over 3 wide 2 buckets 4 deep 5 at 90;");
            range("bucket", 0, 6, what -> x.bucket(0, 6000, 50, what));
            due("bucket 99", x.bucket(0, 6000, 50, 99), NONE);
            range("HAS at 10 PLACES", 100, 109, what -> x.bucket(0, 6000, 50, what));
            range("HAS at 1 PLACE", 100, 100, what -> x.bucket(1, 6000, 50, what));
            due("asking is no refusal", x.count(3), 0);
        });
    }

    private static void bucketNumbers() {
        promise(7);
        edge("each is OFFERED 10 times FLOW by PACE times MANY (cut)", () -> {
            MillRow x = with(BASE, "wheel over 40 wide 20 buckets 4 deep 24;", "wheel over 40 wide 20 buckets 80 deep 24;");
            due("just one", x.bucket(0, 100, 50, 0), 1);
            due("not one", x.bucket(0, 99, 50, 0), 0);
            due("the most", x.bucket(1, 99_999, 1, 0), 249_997);
            due("the least", x.bucket(2, 99_999, 300, 0), 41);
        });
        edge("twice what MANY is above 3 times SIZE (0, if it isn't), and PACE times SIZE by 200 (cut)", () -> {
            MillRow x = with("wheel over 10 wide 2 buckets 30 deep 12;", "wheel over 10 wide 2 buckets 31 deep 12;", "wheel over 10 wide 2 buckets 29 deep 12;",
                    "wheel over 40 wide 2 buckets 4 deep 12;");
            due("MANY as 3 times SIZE", x.bucket(0, 1, 1, 1), 0);
            due("one above", x.bucket(1, 1, 1, 1), 2);
            due("one below", x.bucket(2, 1, 1, 1), 0);
            due("far below, by a great PACE", x.bucket(3, 1, 300, 1), 60);
            MillRow y = with("wheel over 2 wide 2 buckets 4 deep 12;");
            due("SIZE times PACE 398", y.bucket(0, 1, 199, 1), 1);
            due("SIZE times PACE 400", y.bucket(0, 1, 200, 1), 2);
            due("below, PACE not yet", x.bucket(2, 1, 19, 1), 0);
            due("below, PACE just", x.bucket(2, 1, 20, 1), 1);
            due("above, PACE just", x.bucket(1, 1, 20, 1), 3);
        });
        edge("100 at most. It GETS OFFERED times 100 less SPLASH by 100 (cut).", () -> {
            MillRow x = with("wheel over 2 wide 2 buckets 55 deep 12;", "wheel over 2 wide 2 buckets 56 deep 12;", "wheel over 2 wide 2 buckets 57 deep 12;",
                    "wheel over 2 wide 2 buckets 80 deep 12;", BASE);
            int[] splashes = {98, 100, 100, 100};
            int[] gets = {36, 0, 0, 0};
            for (int mill = 0; mill < 4; mill++) {
                due("SPLASH " + mill, x.bucket(mill, 99_999, 10, 1), splashes[mill]);
                due("GETS " + mill, x.bucket(mill, 99_999, 10, 2), gets[mill]);
            }
            due("SPLASH by PACE, too", x.bucket(0, 99_999, 200, 1), 100);
            due("nothing splashed", x.bucket(4, 6000, 19, 2), x.bucket(4, 6000, 19, 0));
            due("of one OFFERED", x.bucket(4, 100, 50, 2), 0);
        });
        edge("PACE times PACE times SIZE by 1,000 (cut; 1,000 at most) thousandths", () -> {
            MillRow x = with("wheel over 16 wide 2 buckets 4 deep 12;", "wheel over 40 wide 2 buckets 4 deep 12;", BASE);
            due("just 1,000", x.bucket(0, 1, 250, 3), 1000);
            due("cut", x.bucket(0, 1, 249, 3), 992);
            due("at most", x.bucket(0, 1, 251, 3), 1000);
            due("at most", x.bucket(1, 1, 300, 3), 1000);
            due("not yet", x.bucket(1, 1, 158, 3), 998);
            due("at most", x.bucket(1, 1, 159, 3), 1000);
            x.holds(2, 300, 0);
            due("none, whatever was asked before", x.bucket(2, 1, 9, 3), 0);
            x.holds(2, 300, 0);
            due("none, whatever was asked between", x.bucket(2, 1, 9, 3), 0);
            due("one", x.bucket(2, 1, 10, 3), 1);
            due("HAS nothing where all is THROWN", x.bucket(0, 99_999, 250, 100), 0);
            due("HOLDS nothing where all is THROWN", x.holds(0, 251, 0), 0);
        });
    }

    private static void bucketPlaces() {
        promise(7);
        edge("DEGREE and 360 times k by MANY (cut), k from 0 on, as long as that is below 180", () -> {
            int[][] wheels = {{80, 0, 40}, {4, 0, 2}, {4, 89, 2}, {4, 90, 1}, {80, 90, 20}, {7, 77, 3}, {5, 36, 2}, {79, 0, 40}, {8, 45, 3}, {8, 44, 4}};
            for (int[] w : wheels) {
                MillRow x = with("wheel over 40 wide 20 buckets " + w[0] + " deep 24 slant 9 at " + w[1] + ";");
                due("PLACES of " + w[0] + " at " + w[1], x.bucket(0, 99_999, 1, 4), w[2]);
                range("HAS of " + w[0] + " at " + w[1], 100, 99 + w[2], what -> x.bucket(0, 99_999, 1, what));
            }
        });
        edge("at the first the lesser of what it GETS and HOLDS there, at each next one the lesser of what it had and HOLDS there", () -> {
            MillRow x = with("wheel over 10 wide 2 buckets 8 deep 18 slant 0 at 0;", "wheel over 10 wide 2 buckets 8 deep 18 slant 9 at 40;",
                    "wheel over 10 wide 2 buckets 8 deep 18 slant 0 at 90;");
            long whole = 12L * 2 * 18 * 10 / 8 * 999 / 1000;
            long[][] has = {{250, 250, whole * 10 / 60, 0}, {250, 250, 250, 0}, {whole * 10 / 60, 0}};
            for (int mill = 0; mill < 3; mill++) {
                due("GETS of " + mill, x.bucket(mill, 2000, 10, 2), 250);
                for (int k = 0; k < has[mill].length; k++) {
                    due("HAS of " + mill + " at " + k, x.bucket(mill, 2000, 10, 100 + k), has[mill][k]);
                }
            }
            due("HAS as it HOLDS less than it GETS", x.bucket(0, 99_999, 10, 100), whole);
            due("HAS nothing of no FLOW", x.bucket(0, 0, 10, 100), 0);
        });
    }

    private static void bucketTogether() {
        promise(7);
        edge("at all PLACES HAS times SIN, together, times SIZE by 2,000 (cut)", () -> {
            MillRow x = with("wheel over 10 wide 2 buckets 4 deep 12 slant 9 at 90;", "wheel over 3 wide 2 buckets 4 deep 12 slant 9 at 89;");
            MillRow y = with("wheel over 40 wide 20 buckets 4 deep 24 slant 9 at 90;");
            due("the most", y.bucket(0, 99_999, 1, 5), 57_600 * 1000L * 40 / 2000);
            due("at one PLACE", x.bucket(0, 1000, 10, 5), 250 * 1000 * 10 / 2000);
            MillRow z = with("wheel over 2 wide 2 buckets 4 deep 12 slant 9 at 89;");
            due("just not one", z.bucket(0, 4, 10, 5), 0);
            due("cut", x.bucket(1, 4, 10, 5), 1);
            due("cut", x.bucket(1, 8, 10, 5), 2);
            due("no FLOW", x.bucket(0, 0, 10, 5), 0);
        });
        edge("what COS there is above COS at the next one (at the last one: at 180), together, times SIZE by 2 (cut): thousandths of pint-feet", () -> {
            MillRow x = with("wheel over 10 wide 2 buckets 4 deep 12 slant 9 at 90;", "wheel over 10 wide 2 buckets 4 deep 12 slant 0 at 0;",
                    "wheel over 3 wide 2 buckets 4 deep 12 slant 9 at 87;");
            due("the last is the first, to 180", x.bucket(0, 1000, 10, 6), 250 * 1000 * 10 / 2);
            due("the first to the next, the last to 180", x.bucket(1, 1000, 10, 6), (250 * 1000 + 119 * 1000) * 10 / 2);
            due("cut", x.bucket(2, 4, 10, 6), 1576);
            due("no FLOW", x.bucket(0, 0, 10, 6), 0);
        });
        edge("what COS there is above COS at the next one (at the last one: at 180), together, times SIZE by 2 (cut): thousandths of pint-feet", () -> {
            for (int[] w : new int[][] {{7, 3, 7, 9, 4, 77}, {40, 20, 80, 24, 9, 0}, {40, 20, 4, 24, 0, 90}, {2, 1, 4, 1, 0, 0}, {13, 7, 31, 11, 6, 43}}) {
                MillRow x = with(over(w));
                for (int flow : new int[] {0, 1, 900, 30_000, 99_999}) {
                    for (int pace : new int[] {1, 37, 120, 300}) {
                        due(over(w) + " by " + flow + " and " + pace, x.work(0, flow, pace, 0), overWork(w, flow, pace));
                        due("hour's", x.work(0, flow, pace, 0), x.bucket(0, flow, pace, 6) * 6 * pace * w[2] / 1000);
                    }
                }
            }
        });
    }

    private static void holds() {
        promise(8);
        edge("What it HOLDS at a degree (0 to 180) by a PACE (over). NONE: none such.", () -> {
            MillRow x = with(BASE, UNDER);
            range("HOLDS at", 0, 180, degree -> x.holds(0, 50, degree));
            mills("HOLDS", NONE, mill -> x.holds(mill, 50, 0), 0);
        });
        edge(PACES, () -> {
            MillRow x = with(BASE);
            range("HOLDS by PACE", 1, 300, pace -> x.holds(0, pace, 0));
            due("HOLDS by PACE 1", x.holds(0, 1, 0), 144);
            due("HOLDS by PACE 300", x.holds(0, 300, 0), 14);
        });
        edge("CAP times (1,000 less THROWN) by 1,000 (cut)", () -> {
            MillRow x = with(BASE, "wheel over 40 wide 20 buckets 4 deep 24;", "wheel over 2 wide 1 buckets 80 deep 1;", "wheel over 2 wide 1 buckets 24 deep 1;");
            due("nothing THROWN", x.holds(0, 9, 0), 144);
            due("one THROWN", x.holds(0, 10, 0), 143);
            due("all THROWN", x.holds(1, 159, 0), 0);
            due("the most", x.holds(1, 1, 0), 57_600);
            due("a CAP of 0", x.holds(2, 1, 0), 0);
            due("a CAP of 1", x.holds(3, 1, 0), 1);
            due("a CAP of 1, some THROWN", x.holds(3, 23, 0), 0);
        });
        edge("(cut; all of it at most, 0 at least)", () -> {
            String wheel = "wheel over 10 wide 2 buckets 20 deep 12 slant ";
            MillRow x = with(wheel + "5;", wheel + "0;", wheel + "9;");
            int[] rims = {140, 100, 172};
            for (int mill = 0; mill < 3; mill++) {
                due("all of it", x.holds(mill, 1, rims[mill] - 60), 144);
                due("no more than all", x.holds(mill, 1, rims[mill] - 61), 144);
                due("no more than all", x.holds(mill, 1, 0), 144);
                due("less than all", x.holds(mill, 1, rims[mill] - 59), 144 * 59 / 60);
                due("cut", x.holds(mill, 1, rims[mill] - 1), 2);
                due("nothing", x.holds(mill, 1, rims[mill]), 0);
                due("no less than nothing", x.holds(mill, 1, rims[mill] + 1), 0);
                due("no less than nothing", x.holds(mill, 1, 180), 0);
            }
        });
    }

    private static void workOver() {
        promise(9);
        edge(FLOW, () -> {
            MillRow x = with(BASE, UNDER);
            range("WORK by FLOW", 0, 99_999, flow -> x.work(0, flow, 50, 60));
            range("WORK by FLOW", 0, 99_999, flow -> x.work(1, flow, 50, 60));
            due("no FLOW over", x.work(0, 0, 50, 60), 0);
            due("no FLOW under", x.work(1, 0, 50, 60), 0);
        });
        edge(PACES, () -> {
            MillRow x = with(BASE, UNDER);
            range("WORK by PACE", 1, 300, pace -> x.work(0, 6000, pace, 60));
            range("WORK by PACE", 1, 300, pace -> x.work(1, 6000, pace, 60));
        });
        edge("WORK an hour (over: whatever the HEAD).", () -> {
            MillRow x = with(BASE);
            for (int head : new int[] {0, 60, 240, 241, -1, Integer.MIN_VALUE, Integer.MAX_VALUE}) {
                due("WORK by HEAD " + head, x.work(0, 6000, 50, head), 2_972_580);
            }
        });
        edge(NONE_SUCH, () -> {
            MillRow x = with(BASE, UNDER);
            mills("WORK", NONE, mill -> x.work(mill, 6000, 50, 60), 0, 1);
            due("asking is no refusal", x.count(3), 0);
        });
        edge("that times 6 times PACE times MANY by 1,000 (cut)", () -> {
            MillRow x = with("wheel over 3 wide 2 buckets 4 deep 12 slant 9 at 89;", "wheel over 40 wide 20 buckets 4 deep 24 slant 9 at 0;");
            due("cut", x.work(0, 4, 10, 0), 1524L * 6 * 10 * 4 / 1000);
            due("cut", x.work(0, 1, 1, 0), 3048 * 6 * 4 / 1000);
            due("a great one", x.work(1, 99_999, 100, 0), overWork(new int[] {40, 20, 4, 24, 9, 0}, 99_999, 100));
        });
    }

    private static void workUnder() {
        promise(9);
        edge(HEAD, () -> {
            MillRow x = with(UNDER);
            range("WORK by HEAD", 0, 240, head -> x.work(0, 6000, 50, head));
            due("no HEAD", x.work(0, 99_999, 1, 0), 0);
            due("the greatest HEAD", x.work(0, 2880, 300, 240), (2146 - 900) * 900);
        });
        edge("SPEED: the whole root of 19,200 times HEAD", () -> {
            MillRow x = with(UNDER);
            for (int head = 1; head <= 240; head++) {
                long root = 0;
                while ((root + 1) * (root + 1) <= 19_200 * head) {
                    root++;
                }
                due("WORK by HEAD " + head, x.work(0, 2880, 1, head), (root - 3) * 3);
            }
            due("a whole root", x.work(0, 2880, 1, 3), (240 - 3) * 3);
            due("a whole root", x.work(0, 2880, 1, 75), (1200 - 3) * 3);
        });
        edge("RIM: 3 times SIZE times PACE by 10 (cut)", () -> {
            int[] sizes = {2, 3, 7, 40, 2, 2, 40};
            int[] paces = {1, 1, 1, 1, 300, 7, 300};
            int[] rims = {0, 0, 2, 12, 180, 4, 3600};
            for (int i = 0; i < sizes.length; i++) {
                MillRow x = with("wheel under " + sizes[i] + " wide 2 buckets 20 deep 12;");
                due("WORK by RIM " + rims[i], x.work(0, 2880, paces[i], 240), Math.max(0, 2146 - rims[i]) * rims[i]);
            }
        });
        edge("FLOW times what SPEED is above RIM (0, if it isn't) times RIM by 2,880 (cut)", () -> {
            MillRow x = with("wheel under 8 wide 2 buckets 20 deep 12;", "wheel under 40 wide 2 buckets 20 deep 12;", "wheel under 2 wide 2 buckets 20 deep 12;");
            due("SPEED just above", x.work(0, 2880, 99, 3), 3 * 237);
            due("SPEED as RIM", x.work(0, 99_999, 100, 3), 0);
            due("SPEED below RIM", x.work(0, 99_999, 101, 3), 0);
            due("SPEED far below RIM", x.work(1, 99_999, 300, 1), 0);
            due("no RIM, as it is cut", x.work(2, 99_999, 1, 240), 0);
            due("RIM of 1", x.work(2, 2880, 2, 240), 2145);
            due("RIM of 1, as it is cut", x.work(2, 2880, 3, 240), 2145);
            due("cut", x.work(2, 1, 2, 240), 0);
            due("cut", x.work(2, 2, 2, 240), 1);
        });
    }

    private static void gives() {
        promise(10);
        edge(FLOW, () -> {
            MillRow x = with(BASE, UNDER);
            range("YIELD by FLOW", 0, 99_999, flow -> x.gives(0, flow, 50, 60, 0));
            range("YIELD by FLOW", 0, 99_999, flow -> x.gives(1, flow, 50, 60, 0));
            due("no FLOW", x.gives(0, 0, 50, 60, 0) + x.gives(1, 0, 50, 60, 0), 0);
        });
        edge(PACES, () -> {
            MillRow x = with(BASE, UNDER);
            range("YIELD by PACE", 1, 300, pace -> x.gives(0, 6000, pace, 60, 0));
            range("YIELD by PACE", 1, 300, pace -> x.gives(1, 6000, pace, 60, 0));
        });
        edge(HEAD, () -> {
            MillRow x = with(UNDER);
            range("YIELD by HEAD", 0, 240, head -> x.gives(0, 6000, 50, head, 0));
            due("no HEAD", x.gives(0, 6000, 50, 0, 0), 0);
        });
        edge("over: by DEGREE as told (HEAD bears on nothing)", () -> {
            MillRow x = with(BASE, "wheel over 10 wide 2 buckets 20 deep 12 slant 5 at 90;");
            for (int head : new int[] {0, 1, 60, 240}) {
                due("YIELD by HEAD " + head, x.gives(0, 6000, 50, head, 0), 2_972_580);
                due("YIELD by HEAD " + head, x.gives(1, 6000, 50, head, 0), overWork(new int[] {10, 2, 20, 12, 5, 90}, 6000, 50));
            }
        });
        edge(BELOW, () -> {
            MillRow x = with(BASE, UNDER);
            range("YIELD by BELOW", 0, 100, below -> x.gives(0, 6000, 50, 60, below));
            range("YIELD by BELOW", 0, 100, below -> x.gives(1, 6000, 50, 60, below));
            due("nothing BELOW", x.gives(0, 6000, 50, 60, 0), 2_972_580);
            due("one BELOW", x.gives(0, 6000, 50, 60, 1), 2_972_580 - 60);
            due("most BELOW", x.gives(0, 6000, 50, 60, 100), 2_972_580 - 600_000);
            due("cut", x.gives(0, 6000, 1, 60, 1), overWork(new int[] {10, 2, 20, 12, 5, 0}, 6000, 1) - 1);
        });
        edge("less 6 times PACE times WIDE times BELOW times BELOW by 10 (cut)", () -> {
            MillRow x = with("wheel over 40 wide 1 buckets 4 deep 24;", "wheel over 40 wide 20 buckets 4 deep 24;", "wheel under 40 wide 3 buckets 4 deep 24;");
            int[][] cases = {{0, 1, 1, 0}, {0, 1, 2, 2}, {0, 2, 1, 1}, {0, 3, 3, 16}, {1, 1, 1, 12}, {1, 7, 9, 6804}, {2, 1, 1, 1}, {2, 3, 3, 48}};
            for (int[] c : cases) {
                due("less by PACE " + c[1] + " and BELOW " + c[2], x.gives(c[0], 99_999, c[1], 60, 0) - x.gives(c[0], 99_999, c[1], 60, c[2]), c[3]);
            }
        });
        edge("at least 0", () -> {
            MillRow x = with(BASE + "rub 9999;", BASE + "rub 9908;", BASE + "rub 9909;", UNDER + "rub 9999;");
            due("by much RUB", x.gives(0, 6000, 50, 60, 0), 0);
            due("by RUB that leaves some", x.gives(1, 6000, 50, 60, 0), 180);
            due("by RUB that leaves none", x.gives(2, 6000, 50, 60, 0), 0);
            due("by water BELOW that leaves some", x.gives(1, 6000, 50, 60, 1), 120);
            due("by water BELOW that leaves none", x.gives(1, 6000, 50, 60, 2), 0);
            due("by all", x.gives(3, 0, 300, 0, 100), 0);
        });
        edge(NONE_SUCH, () -> {
            MillRow x = with(BASE, UNDER);
            mills("YIELD", NONE, mill -> x.gives(mill, 6000, 50, 60, 0), 0, 1);
            due("asking is no refusal", x.count(3), 0);
        });
    }

    private static void best() {
        promise(11);
        edge("BEST PACE (1 to 300) by FLOW, HEAD, BELOW: that with the most YIELD", () -> {
            MillRow x = with("wheel under 2 wide 1 buckets 4 deep 1;", "wheel over 2 wide 1 buckets 80 deep 1;", "wheel under 3 wide 1 buckets 4 deep 1;rub 999;");
            due("the greatest", x.best(0, 9000, 240, 0, 0), 300);
            due("its YIELD", x.best(0, 9000, 240, 0, 1), 9000L * (2146 - 180) * 180 / 2880);
            due("the least", x.best(1, 99_999, 240, 0, 0), 1);
            due("the least, by RUB", x.best(2, 10, 240, 0, 0), 1);
        });
        edge("BEST PACE (1 to 300) by FLOW, HEAD, BELOW: that with the most YIELD", () -> {
            for (String text : new String[] {"wheel over 40 wide 20 buckets 4 deep 24;rub 999;", BASE + "rub 40;", UNDER, UNDER + "rub 77;"}) {
                MillRow x = with(text);
                int best = 1;
                long most = x.gives(0, 3000, 1, 9, 3);
                for (int pace = 2; pace <= 300; pace++) {
                    long gain = x.gives(0, 3000, pace, 9, 3);
                    best = gain > most ? pace : best;
                    most = Math.max(most, gain);
                }
                due("BEST PACE of " + text, x.best(0, 3000, 9, 3, 0), best);
                due("its YIELD", x.best(0, 3000, 9, 3, 1), most);
            }
        });
        edge("(of several the least)", () -> {
            MillRow x = with("wheel under 2 wide 1 buckets 4 deep 1;", BASE);
            due("YIELD of one", x.gives(0, 99_999, 115, 1, 0), 99_999L * 69 * 69 / 2880);
            due("YIELD of the next", x.gives(0, 99_999, 116, 1, 0), 99_999L * 69 * 69 / 2880);
            due("the least", x.best(0, 99_999, 1, 0, 0), 115);
            due("the YIELD", x.best(0, 99_999, 1, 0, 1), 99_999L * 69 * 69 / 2880);
            due("all without FLOW", x.best(1, 0, 60, 0, 0), 1);
            due("nothing without FLOW", x.best(1, 0, 60, 0, 1), 0);
            due("all without HEAD", x.best(0, 99_999, 0, 0, 0), 1);
        });
        edge(FLOW, () -> {
            MillRow x = with(BASE, UNDER);
            range("BEST PACE by FLOW", 0, 99_999, flow -> x.best(0, flow, 60, 0, 0));
            range("best YIELD by FLOW", 0, 99_999, flow -> x.best(1, flow, 60, 0, 1));
        });
        edge(HEAD, () -> {
            MillRow x = with(UNDER);
            range("BEST PACE by HEAD", 0, 240, head -> x.best(0, 6000, head, 0, 0));
        });
        edge(BELOW, () -> {
            MillRow x = with(BASE, UNDER);
            range("BEST PACE by BELOW", 0, 100, below -> x.best(0, 6000, 60, below, 0));
            range("best YIELD by BELOW", 0, 100, below -> x.best(1, 6000, 60, below, 1));
        });
        edge("BEST PACE (what 0), its YIELD (1). NONE: none such.", () -> {
            MillRow x = with(BASE, UNDER);
            range("best", 0, 1, what -> x.best(0, 6000, 60, 0, what));
            mills("BEST PACE", NONE, mill -> x.best(mill, 6000, 60, 0, 0), 0, 1);
            due("asking is no refusal", x.count(3), 0);
        });
    }

    private static void parts() {
        promise(12);
        edge("NONE: none such, FLOW 0.", () -> {
            MillRow x = with(BASE, UNDER);
            range("PARTS by FLOW", 1, 99_999, flow -> x.parts(0, flow, 12));
            range("PARTS by FLOW", 1, 99_999, flow -> x.parts(1, flow, 12));
            mills("PARTS", NONE, mill -> x.parts(mill, 6000, 12), 0, 1);
            due("asking is no refusal", x.count(3), 0);
        });
        edge("FALL (feet 1 to 99)", () -> {
            MillRow x = with(BASE);
            range("PARTS by FALL", 1, 99, fall -> x.parts(0, 6000, fall));
            due("FALL 1", x.parts(0, 6000, 1), 825);
            due("FALL 99", x.parts(0, 6000, 99), 8);
        });
        edge("YIELD in hundredths (cut) of FLOW times 60 times FALL", () -> {
            MillRow x = with(BASE + "rub 9909;", UNDER, BASE);
            due("no YIELD", x.parts(0, 6000, 1), 0);
            due("under", x.parts(1, 6000, 12), 288_437L * 100 / (6000 * 60 * 12));
            due("cut", x.parts(2, 6000, 8), 103);
        });
        edge("PARTS (HEAD 60, its PACE, nothing BELOW)", () -> {
            MillRow x = with(UNDER + "pace 77;", BASE + "pace 7;");
            due("under", x.parts(0, 99_999, 1), x.gives(0, 99_999, 77, 60, 0) * 100 / (99_999L * 60));
            due("over", x.parts(1, 5000, 3), x.gives(1, 5000, 7, 60, 0) * 100 / (5000L * 60 * 3));
        });
    }

    private static void gridArguments() {
        promise(13);
        edge("NONE: none such (least at least 2, FALL at most 40).", () -> {
            MillRow x = with(BASE, UNDER);
            range("GRID from", 2, 9, least -> x.grid(0, least, 9, 10_010, 0));
            range("GRID to", 9, 40, fall -> x.grid(0, 9, fall, 10_010, 0));
            due("of one SIZE", x.grid(0, 40, 40, 10_010, 0), 40);
            due("of one SIZE", x.grid(0, 2, 2, 10_010, 0), 2);
            due("none from above to below", x.grid(0, 40, 2, 10_010, 0), NONE);
            range("GRID", 0, 2, what -> x.grid(0, 9, 12, 10_010, what));
            mills("GRID", NONE, mill -> x.grid(mill, 9, 12, 10_010, 0), 0, 1);
            due("asking is no refusal", x.count(3), 0);
        });
        edge("(flows: 1,000 times the first and the other, each in hundreds of pints a minute, 0 to 999)", () -> {
            MillRow x = with(BASE);
            range("GRID by flows", 0, 999_999, flows -> x.grid(0, 9, 12, flows, 0));
        });
    }

    /** GRID in the document's words, of a mill told by WIDE, DEEP, SLANT, DEGREE, PACE and RUB. */
    private static void gridIs(int[] mill, int least, int fall, int flows) {
        int[] w = {2, mill[0], 4, mill[1], mill[2], mill[3]};
        long[] best = {NONE, NONE, NONE, NONE};
        for (int size = least; size <= fall; size++) {
            for (int many = 4; many <= 80; many += 4) {
                w[0] = size;
                w[2] = many;
                long one = overYield(w, flows / 1000 * 100, mill[4], mill[5]);
                long both = one + overYield(w, flows % 1000 * 100, mill[4], mill[5]);
                best = both > best[0] ? new long[] {both, size, many, one} : best;
            }
        }
        int more = 0;
        for (int size = least; size <= fall; size++) {
            for (int many = 4; many <= 80; many += 4) {
                w[0] = size;
                w[2] = many;
                more += overYield(w, flows / 1000 * 100, mill[4], mill[5]) > best[3] ? 1 : 0;
            }
        }
        for (String kind : new String[] {"under", "over"}) {
            MillRow x = with("wheel " + kind + " 9 wide " + mill[0] + " buckets 13 deep " + mill[1] + " slant " + mill[2] + " at " + mill[3] + ";pace "
                    + mill[4] + ";rub " + mill[5] + ";");
            due("GRID's SIZE by " + flows, x.grid(0, least, fall, flows, 0), best[1]);
            due("GRID's MANY by " + flows, x.grid(0, least, fall, flows, 1), best[2]);
            due("GRID's more by " + flows, x.grid(0, least, fall, flows, 2), more);
        }
    }

    private static void gridAnswers() {
        promise(13);
        edge("of all wheels \"over\" with SIZE from one to another (not above FALL)", () -> {
            gridIs(new int[] {14, 9, 6, 75, 150, 6}, 22, 29, 3888);
            gridIs(new int[] {2, 22, 7, 82, 239, 0}, 17, 33, 6);
            MillRow x = with("wheel over 9 wide 14 buckets 12 deep 9 slant 6 at 75;pace 150;rub 6;", "wheel over 9 wide 2 buckets 12 deep 22 slant 7 at 82;pace 239;");
            due("the greatest is the best", x.grid(0, 22, 29, 3888, 0), 29);
            due("the least is the best", x.grid(1, 17, 33, 6, 0), 17);
        });
        edge("MANY from 4 on by fours to 80", () -> {
            gridIs(new int[] {17, 5, 7, 36, 182, 69}, 25, 29, 59_960);
            gridIs(new int[] {5, 11, 7, 3, 153, 0}, 32, 40, 48_953);
            MillRow x = with("wheel over 9 wide 17 buckets 12 deep 5 slant 7 at 36;pace 182;rub 69;");
            due("MANY", x.grid(0, 25, 29, 59_960, 1), 4);
            due("more by the first alone, some with 80", x.grid(0, 25, 29, 59_960, 2), 14);
        });
        edge("(of several the least SIZE, then the least MANY)", () -> {
            gridIs(new int[] {10, 21, 8, 64, 195, 289}, 18, 31, 14);
            gridIs(new int[] {6, 17, 5, 20, 285, 0}, 10, 13, 8);
            gridIs(new int[] {9, 22, 9, 64, 260, 117}, 8, 22, 13_001);
            MillRow x = with("wheel over 9 wide 10 buckets 12 deep 21 slant 8 at 64;pace 195;rub 289;", BASE);
            due("24 and 26 give as much", x.grid(0, 18, 31, 14, 0), 24);
            due("all give nothing", x.grid(1, 2, 40, 0, 0), 2);
            due("all give nothing", x.grid(1, 2, 40, 0, 1), 4);
            due("all give nothing", x.grid(1, 33, 40, 0, 0), 33);
        });
        edge("how many of all have more by the one FLOW alone than it (NONE BEST: above 0)", () -> {
            gridIs(new int[] {1, 22, 7, 30, 201, 50}, 16, 24, 10_458);
            MillRow x = with("wheel over 9 wide 1 buckets 12 deep 22 slant 7 at 30;pace 201;rub 50;", BASE);
            due("NONE BEST", x.grid(0, 16, 24, 10_458, 2), 26);
            due("none has more than nothing", x.grid(1, 2, 40, 0, 2), 0);
            due("none has more by the first FLOW, it being 0", x.grid(0, 16, 24, 458, 2), 0);
            due("none has more by the one FLOW twice", x.grid(0, 16, 24, 10_010, 2), 0);
        });
        edge("0 to 999)", () -> {
            gridIs(new int[] {4, 7, 3, 12, 60, 40}, 5, 9, 999_000);
            gridIs(new int[] {4, 7, 3, 12, 60, 40}, 5, 9, 999);
            gridIs(new int[] {20, 24, 9, 0, 20, 0}, 30, 40, 999_999);
            gridIs(new int[] {4, 4, 8, 42, 256, 0}, 6, 13, 29_132);
            gridIs(new int[] {6, 15, 1, 13, 251, 0}, 12, 25, 28_038);
        });
    }

    private static void model() {
        promise(14);
        edge("MODEL of a mill by f (2 to 10;", () -> {
            MillRow x = with("wheel over 4 wide 2 buckets 12 deep 2;pace 20;", "wheel over 2 wide 1 buckets 12 deep 1;pace 20;");
            range("what the MODEL says by f", 2, 10, f -> x.model(0, f, 90, 0));
            range("what is so by f", 2, 10, f -> x.model(1, f, 90, 1));
            due("by 10", x.model(0, 10, 90, 0), 10_000 * overWork(new int[] {4, 2, 12, 2, 4, 10}, 90, 20));
            due("by 2", x.model(0, 2, 90, 0), 16 * overWork(new int[] {4, 2, 12, 2, 4, 10}, 90, 20));
        });
        edge("SIZE, WIDE, DEEP times f not above 40, 20, 24)", () -> {
            MillRow x = with("wheel over 20 wide 10 buckets 12 deep 12;pace 20;", "wheel over 21 wide 1 buckets 12 deep 1;",
                    "wheel over 2 wide 11 buckets 12 deep 1;", "wheel over 2 wide 1 buckets 12 deep 13;", "wheel over 8 wide 4 buckets 12 deep 4;",
                    "wheel over 13 wide 6 buckets 12 deep 8;pace 9;");
            due("just", x.model(0, 2, 500, 0), 16 * overWork(new int[] {20, 10, 12, 12, 4, 10}, 500, 20));
            due("just", x.model(0, 2, 500, 1), overWork(new int[] {40, 20, 12, 24, 4, 10}, 4000, 20));
            due("by 3", x.model(0, 3, 500, 0), NONE);
            due("SIZE above", x.model(1, 2, 500, 0), NONE);
            due("WIDE above", x.model(2, 2, 500, 0), NONE);
            due("DEEP above", x.model(3, 2, 500, 0), NONE);
            range("by f", 2, 5, f -> x.model(4, f, 500, 1));
            range("by f", 2, 3, f -> x.model(5, f, 500, 1));
        });
        edge("by f times f times f FLOW (99,999 at most) and the same PACE (over)", () -> {
            MillRow x = with("wheel over 4 wide 2 buckets 4 deep 2;pace 20;");
            int[] large = {40, 20, 4, 20, 4, 10};
            due("below", x.model(0, 10, 99, 1), overWork(large, 99_000, 20));
            due("at most", x.model(0, 10, 100, 1), overWork(large, 99_999, 20));
            due("at most", x.model(0, 10, 99_999, 1), overWork(large, 99_999, 20));
            due("no FLOW", x.model(0, 10, 0, 1), 0);
            due("it says more by more", x.model(0, 10, 101, 0), 10_000 * overWork(new int[] {4, 2, 4, 2, 4, 10}, 101, 20));
        });
        edge(FLOW, () -> {
            MillRow x = with("wheel over 4 wide 2 buckets 12 deep 2;pace 20;");
            range("what the MODEL says by FLOW", 0, 99_999, flow -> x.model(0, 2, flow, 0));
            range("what is so by FLOW", 0, 99_999, flow -> x.model(0, 2, flow, 1));
        });
        edge("what it says (what 0), what is so (1). NONE: none such.", () -> {
            MillRow x = with("wheel over 4 wide 2 buckets 12 deep 2;", "wheel under 4 wide 2 buckets 12 deep 2;");
            range("MODEL", 0, 1, what -> x.model(0, 2, 500, what));
            mills("MODEL", NONE, mill -> x.model(mill, 2, 500, 0), 0);
            due("asking is no refusal", x.count(3), 0);
        });
    }

    private static void teeth() {
        promise(31);
        edge("TEETH of two wheels (1 to 400)", () -> {
            MillRow x = new MillRow();
            for (int what = 0; what < 2; what++) {
                int asked = what;
                range("TEETH of one", 1, 400, one -> x.teeth(one, 7, asked));
                range("TEETH of the other", 1, 400, other -> x.teeth(7, other, asked));
            }
            due("1 and 1", x.teeth(1, 1, 0), 1);
            due("1 and 400", x.teeth(1, 400, 0), 400);
            due("400 and 1", x.teeth(400, 1, 0), 1);
            due("400 and 399", x.teeth(400, 399, 0), 399);
            due("400 and 400", x.teeth(400, 400, 0), 1);
            due("200 and 400", x.teeth(200, 400, 0), 2);
            due("400 and 200", x.teeth(400, 200, 0), 1);
            due("387 and 129", x.teeth(387, 129, 0), 1);
        });
        edge("whether each meets each (1)", () -> {
            MillRow x = new MillRow();
            due("1 and 1", x.teeth(1, 1, 1), 1);
            due("400 and 1", x.teeth(400, 1, 1), 1);
            due("400 and 399", x.teeth(400, 399, 1), 1);
            due("400 and 400", x.teeth(400, 400, 1), 0);
            due("2 and 4", x.teeth(2, 4, 1), 0);
            due("4 and 2", x.teeth(4, 2, 1), 0);
            due("15 and 8", x.teeth(15, 8, 1), 1);
        });
        edge("TEETH: turns (what 0), whether each meets each (1). NONE: none such.", () -> {
            MillRow x = new MillRow();
            range("TEETH", 0, 1, what -> x.teeth(20, 30, what));
            due("asking is no refusal", x.count(3), 0);
        });
    }

    private static void losses() {
        promise(32);
        edge(FLOW, () -> {
            MillRow x = with(BASE);
            range("LOSSES by FLOW", 0, 99_999, flow -> x.losses(0, flow, 50, 0));
            for (int what = 0; what < 4; what++) {
                due("nothing lost of nothing", x.losses(0, 0, 50, what), 0);
            }
        });
        edge(PACES, () -> {
            MillRow x = with(BASE);
            range("LOSSES by PACE", 1, 300, pace -> x.losses(0, 6000, pace, 0));
        });
        edge("CARRIED (3). NONE: none such (over).", () -> {
            MillRow x = with(BASE, UNDER);
            range("LOSSES", 0, 3, what -> x.losses(0, 6000, 50, what));
            mills("LOSSES", NONE, mill -> x.losses(mill, 6000, 50, 0), 0);
            due("asking is no refusal", x.count(3), 0);
        });
        edge("SPLASHED: OFFERED less what it GETS; WASTED: that less what it HAS first; SPILT: that less what it HAS last; CARRIED: the rest.", () -> {
            MillRow x = with("wheel over 2 wide 2 buckets 57 deep 12;", "wheel over 2 wide 1 buckets 4 deep 2 slant 0 at 0;", BASE,
                    "wheel over 2 wide 1 buckets 4 deep 2 slant 9 at 90;");
            int[][] due = {{1754, 0, 0, 0}, {0, 2487, 10, 2}, {2, 0, 58, 0}, {0, 2487, 0, 12}};
            int[][] asked = {{99_999, 10}, {9_999, 10}, {6_000, 50}, {9_999, 10}};
            for (int mill = 0; mill < 4; mill++) {
                for (int what = 0; what < 4; what++) {
                    due("LOSSES " + what + " of " + mill, x.losses(mill, asked[mill][0], asked[mill][1], what), due[mill][what]);
                }
            }
        });
    }

    private static void versus() {
        promise(34);
        String tiny = "wheel over 3 wide 1 buckets 35 deep 1 slant 3 at 32;rub 29;";
        String broad = "wheel under 40 wide 20 buckets 20 deep 12;";
        edge("in hundredths (cut; 2,000,000,000 at most)", () -> {
            MillRow x = with(tiny, broad, BASE, UNDER);
            due("YIELD of the one over", x.best(0, 99_999, 0, 0, 1), 1);
            due("at most", x.versus(0, 1, 99_999, 99), 2_000_000_000);
            due("below that", x.versus(0, 1, 99_999, 8), x.best(1, 99_999, 96, 0, 1) * 100);
            due("cut", x.versus(2, 3, 6000, 5), x.best(3, 6000, 60, 0, 1) * 100 / x.best(2, 6000, 60, 0, 1));
        });
        edge("FLOW, HEAD 12 times FALL (240 at most), nothing BELOW", () -> {
            MillRow x = with(BASE, UNDER);
            for (int fall : new int[] {1, 19, 20, 21, 99}) {
                long under = x.best(1, 6000, Math.min(240, 12 * fall), 0, 1);
                due("by FALL " + fall, x.versus(0, 1, 6000, fall), under * 100 / x.best(0, 6000, 60, 0, 1));
            }
            MillRow y = with("wheel over 3 wide 20 buckets 4 deep 24;", "wheel under 10 wide 20 buckets 20 deep 12;");
            for (int flow = 10; flow <= 100; flow += 10) {
                long under = y.best(1, flow, 60, 0, 1);
                due("nothing BELOW, by FLOW " + flow, y.versus(0, 1, flow, 5), under * 100 / y.best(0, flow, 60, 0, 1));
            }
            due("more by more FALL", x.versus(0, 1, 6000, 20) > x.versus(0, 1, 6000, 19), true);
            due("no more beyond 240", x.versus(0, 1, 6000, 99), x.versus(0, 1, 6000, 20));
        });
        edge("VERSUS (FALL 1 to 99).", () -> {
            MillRow x = with(BASE, UNDER);
            range("VERSUS by FALL", 1, 99, fall -> x.versus(0, 1, 6000, fall));
        });
        edge("NONE: none such (one over, one under), the one over has none.", () -> {
            MillRow x = with(BASE, UNDER);
            range("VERSUS by FLOW", 1, 99_999, flow -> flow < 1_000 && flow > 0 ? x.versus(0, 1, 1_000, 5) : x.versus(0, 1, flow, 5));
            mills("the one over", NONE, mill -> x.versus(mill, 1, 6000, 5), 0);
            mills("the one under", NONE, mill -> x.versus(0, mill, 6000, 5), 1);
            due("turned", x.versus(1, 0, 6000, 5), NONE);
            due("asking is no refusal", x.count(3), 0);
        });
        edge("the one over has none.", () -> {
            MillRow x = with(BASE, UNDER, BASE + "rub 9999;", UNDER + "rub 9999;");
            due("no FLOW", x.versus(0, 1, 0, 5), NONE);
            due("no YIELD by any PACE", x.best(2, 50, 60, 0, 1), 0);
            due("too much RUB", x.versus(2, 1, 50, 5), NONE);
            due("no YIELD by any PACE", x.best(3, 500, 60, 0, 1), 0);
            due("the one under has none", x.versus(0, 3, 500, 5), 0);
        });
    }

    private static void balance() {
        promise(35);
        int none = -2_000_000_000;
        edge("BALANCE of ICE (1 to 9,999 pints each)", () -> {
            MillRow x = with(BASE);
            range("BALANCE by ICE", 1, 9_999, none, ice -> x.balance(0, 5, 1, ice));
            due("of 1", x.balance(0, 5, 1, 1), 5);
            due("of 9,999", x.balance(0, 5, 1, 9_999), 49_995);
        });
        edge("on so many BUCKETS (1 to all) from one on.", () -> {
            MillRow x = with(BASE, "wheel over 2 wide 2 buckets 4 deep 2;", "wheel over 40 wide 2 buckets 80 deep 2;");
            int[] all = {20, 4, 80};
            for (int mill = 0; mill < 3; mill++) {
                int asked = mill;
                range("BALANCE of so many", 1, all[mill], none, many -> x.balance(asked, 1, many, 100));
                range("BALANCE from", 0, all[mill] - 1, none, from -> x.balance(asked, from, 1, 100));
                due("all together", x.balance(mill, all[mill] - 1, all[mill], 9_999), 0);
            }
        });
        edge("on so many BUCKETS (1 to all) from one on.", () -> {
            MillRow x = with(BASE);
            due("the last and the first", x.balance(0, 19, 2, 100), -310 * 100 * 10 / 2000);
            due("over the top", x.balance(0, 19, 3, 100), 0);
            due("over the top", x.balance(0, 19, 4, 100), 586 * 100 * 10 / 2000);
            due("from the last all", x.balance(0, 19, 20, 100), 0);
            due("all but one", x.balance(0, 6, 19, 100), -500);
        });
        edge("(beyond 180 less SIN of what is beyond), together, times SIZE by 2,000 (cut)", () -> {
            MillRow x = with(BASE, "wheel over 7 wide 2 buckets 7 deep 12;", "wheel over 40 wide 2 buckets 80 deep 12;");
            due("at 0", x.balance(0, 0, 1, 9_999), 0);
            due("at 90", x.balance(0, 5, 1, 100), 500);
            due("at 162", x.balance(0, 9, 1, 100), 155);
            due("at 180", x.balance(0, 10, 1, 9_999), 0);
            due("at 198", x.balance(0, 11, 1, 100), -155);
            due("at 270", x.balance(0, 15, 1, 100), -500);
            due("at 342", x.balance(0, 19, 1, 100), -155);
            due("at 205, as it is cut", x.balance(1, 4, 1, 1000), -sin(25) * 1000 * 7 / 2000);
            due("cut to nothing", x.balance(1, 4, 1, 1), -sin(25) * 7 / 2000);
            due("the most of half a wheel", x.balance(2, 0, 40, 9_999), halfWheel());
            due("the least of half a wheel", x.balance(2, 40, 40, 9_999), -halfWheel());
        });
        edge("(BUCKET k at the degree 360 times k by MANY (cut), from the top on)", () -> {
            MillRow x = with("wheel over 20 wide 2 buckets 7 deep 12;", "wheel over 20 wide 2 buckets 80 deep 12 at 90;", "wheel under 20 wide 2 buckets 79 deep 12;");
            int[] many = {7, 80, 79};
            for (int mill = 0; mill < 3; mill++) {
                for (int k = 0; k < many[mill]; k++) {
                    int degree = 360 * k / many[mill];
                    due("BUCKET at " + degree, x.balance(mill, k, 1, 100), degree > 180 ? -sin(degree - 180) : sin(degree));
                }
            }
        });
        edge("-2,000,000,000: none such.", () -> {
            MillRow x = with(BASE);
            mills("BALANCE", none, mill -> x.balance(mill, 0, 1, 1), 0);
            due("asking is no refusal", x.count(3), 0);
        });
    }

    private static long halfWheel() {
        long sines = 0;
        for (int k = 0; k < 40; k++) {
            sines += sin(360 * k / 80);
        }
        return sines * 9_999 * 40 / 2000;
    }
}
