import java.math.BigInteger;
import java.util.Arrays;

/** Edges of promises 25 to 30, 36, 37 and 45, and of an object's 512 calls: guilt, ruins, rims, falls for sale, counts. */
final class EdgesOfTales extends Edges {
    static void all() {
        guilt();
        seen();
        raised();
        raisedCut();
        ruinArguments();
        ruin();
        load();
        rim();
        fall();
        buyArguments();
        buy();
        count();
        countRefused();
        calls();
    }

    private static void guilt() {
        promise(25);
        edge("WEIGHTS of mills' guilt (0 to 99; 1 at first)", () -> {
            MillRow x = with(BASE, BASE);
            due("1 at first", x.raised(0), 500_000);
            range("guilt", 0, 99, 0, weight -> x.guilt(0, weight) ? 1 : 0);
            due("99", x.raised(0), 990_000);
            x.guilt(0, 0);
            due("0", x.raised(0), 0);
            due("the other's", x.raised(1), 1_000_000);
        });
        edge("true; false, doing nothing but REFUSED: not as told.", () -> {
            MillRow x = with(BASE, BASE);
            x.guilt(0, 3);
            refused(x, 0, "weight -1", () -> x.guilt(0, -1));
            refused(x, 0, "weight 100", () -> x.guilt(0, 100));
            refused(x, 0, "mill -1", () -> x.guilt(-1, 1));
            refused(x, 0, "mill 6", () -> x.guilt(6, 1));
            refused(x, 0, "the greatest mill", () -> x.guilt(Integer.MAX_VALUE, 1));
            due("WEIGHT stays", x.raised(0), 750_000);
        });
        edge("MILLS 0 to 5", () -> {
            MillRow x = with(BASE, BASE, BASE, BASE, BASE, BASE);
            due("the first", x.guilt(0, 0), true);
            due("the last", x.guilt(5, 6), true);
            due("the last's ODDS", x.raised(5), 600_000);
        });
    }

    private static void seen() {
        promise(26);
        edge("A LEVEL (0 to 100) of a MILL is SEEN: how many are.", () -> {
            MillRow x = with(BASE + "nail 0;", BASE);
            due("LEVEL 0", x.seen(0, 0), 1);
            due("LEVEL 100", x.seen(1, 100), 2);
            refused(x, 0, NONE, "LEVEL -1", () -> x.seen(0, -1));
            refused(x, 0, NONE, "LEVEL 101", () -> x.seen(0, 101));
            refused(x, 0, NONE, "mill -1", () -> x.seen(-1, 5));
            refused(x, 0, NONE, "mill 6", () -> x.seen(6, 5));
            refused(x, 0, NONE, "a mill not told", () -> x.seen(2, 5));
            due("LEVELS SEEN", x.count(7), 2);
        });
        edge("NONE, doing nothing but REFUSED: not as told, 30 are.", () -> {
            MillRow x = with(BASE, BASE);
            for (int i = 1; i <= 30; i++) {
                due("SEEN", x.seen(i % 2, i), i);
            }
            refused(x, 1, NONE, "the 31st", () -> x.seen(0, 5));
            refused(x, 0, NONE, "not as told goes first", () -> x.seen(0, 101));
            due("LEVELS SEEN", x.count(7), 30);
        });
    }

    private static void raised() {
        promise(27);
        edge("as likely as 8 tenths, if it's of that one and above its NAIL, or of another one and not above that one's; else as 2", () -> {
            for (int nail : new int[] {0, 49, 50, 51, 52, 100}) {
                MillRow x = with(BASE + "nail " + nail + ";", BASE + "nail 7;");
                x.seen(0, 51);
                due("of that one, NAIL " + nail, x.raised(0), nail < 51 ? 800_000 : 200_000);
                due("of another one, NAIL " + nail, x.raised(1), nail < 51 ? 200_000 : 800_000);
            }
        });
        edge("as likely as 8 tenths, if it's of that one and above its NAIL, or of another one and not above that one's; else as 2", () -> {
            MillRow x = with(BASE + "nail 0;", BASE + "nail 100;");
            x.seen(0, 0);
            due("LEVEL 0 is not above NAIL 0", x.raised(0), 200_000);
            x.seen(0, 1);
            due("LEVEL 1 is", x.raised(0), 500_000);
            x.seen(1, 100);
            due("LEVEL 100 is not above NAIL 100", x.raised(1), 200_000);
            due("nor of another", x.raised(0), 800_000);
        });
        edge("ODDS that a MILL RAISED its NAIL. NONE: none such, nothing weighs.", () -> {
            MillRow x = with(BASE, BASE);
            mills("ODDS", NONE, x::raised, 0, 1);
            x.guilt(0, 0);
            x.guilt(1, 0);
            due("nothing weighs", x.raised(0), NONE);
            due("nothing weighs", x.raised(1), NONE);
            tell(x, 3, BASE);
            due("one weighs", x.raised(3), 1_000_000);
            due("one does not", x.raised(0), 0);
            due("asking is no refusal", x.count(3), 0);
        });
        edge("nothing weighs.", () -> {
            MillRow x = with(BASE + "nail 0;");
            for (int i = 1; i <= 20; i++) {
                x.seen(0, 0);
                due("all ODDS, behind " + i, x.raised(0), 1_000_000);
            }
            x.seen(0, 0);
            due("nothing weighs, as the last is cut", x.raised(0), NONE);
        });
        edge("ODDS (of mills told)", () -> {
            MillRow x = new MillRow();
            tell(x, 4, BASE);
            due("of one", x.raised(4), 1_000_000);
            tell(x, 5, BASE);
            due("of two", x.raised(4), 500_000);
            tell(x, 0, BASE);
            due("of three, cut", x.raised(4), 333_333);
        });
    }

    private static void raisedCut() {
        promise(27);
        edge("in millionths (cut) by 10^14 times WEIGHT, times tenths by 10 (cut) each", () -> {
            MillRow x = with(BASE + "nail 0;", BASE + "nail 0;", BASE);
            x.guilt(2, 0);
            long one = 100_000_000_000_000L;
            long other = one;
            for (int i = 1; i <= 30; i++) {
                x.seen(0, 0);
                one = one * 2 / 10;
                other = other * 8 / 10;
                BigInteger part = BigInteger.valueOf(one).multiply(BigInteger.valueOf(1_000_000));
                due("ODDS behind " + i, x.raised(0), part.divide(BigInteger.valueOf(one + other)).longValueExact());
            }
            due("cut to nothing", one, 0);
            x.guilt(1, 0);
            due("nothing weighs, as all is cut", x.raised(1), NONE);
        });
        edge("in millionths (cut) by 10^14 times WEIGHT, times tenths by 10 (cut) each", () -> {
            MillRow x = with(BASE + "nail 0;", BASE + "nail 0;");
            x.guilt(1, 3);
            long[] weights = {100_000_000_000_000L, 300_000_000_000_000L};
            for (int i = 1; i <= 30; i++) {
                int level = i * 7 % 3 == 0 ? 1 : 0;
                int mill = i % 2;
                x.seen(mill, level);
                weights[mill] = weights[mill] * (level > 0 ? 8 : 2) / 10;
                weights[1 - mill] = weights[1 - mill] * (level > 0 ? 2 : 8) / 10;
                BigInteger all = BigInteger.valueOf(weights[0] + weights[1]);
                for (int one = 0; one < 2; one++) {
                    BigInteger part = BigInteger.valueOf(weights[one]).multiply(BigInteger.valueOf(1_000_000));
                    due("ODDS of " + one + " behind " + i, x.raised(one), part.divide(all).longValueExact());
                }
            }
        });
        edge("in millionths (cut) by 10^14 times WEIGHT, times tenths by 10 (cut) each", () -> {
            MillRow x = with(BASE, BASE, BASE, BASE, BASE, BASE);
            for (int mill = 0; mill < 6; mill++) {
                x.guilt(mill, 99);
            }
            for (int mill = 0; mill < 6; mill++) {
                due("a sixth of the most", x.raised(mill), 166_666);
            }
            MillRow y = with(BASE, BASE);
            y.guilt(0, 99);
            y.guilt(1, 99);
            y.seen(0, 0);
            due("one fifth, nothing being cut", y.raised(0), 200_000);
            due("four fifths, nothing being cut", y.raised(1), 800_000);
            x.guilt(5, 1);
            due("the least", x.raised(5), 1_000_000 / 496);
            x.seen(5, 0);
            due("the least, not likely", x.raised(5), 1_000_000L * 2 / (2 + 495 * 8));
        });
    }

    private static void ruinArguments() {
        promise(28);
        edge("NONE: not as told (PIT 1 to 20, SIZE 2 to 40, PACE 1 to 300; least not above greatest).", () -> {
            MillRow x = with(SHORT);
            range("RUIN by PIT", 1, 20, pit -> x.ruin(pit, 240, 1300));
            range("RUIN by the least SIZE", 2, 40, least -> x.ruin(20, sizes(least, 40), 1300));
            range("RUIN by the greatest SIZE", 2, 40, most -> x.ruin(20, sizes(2, most), 1300));
            range("RUIN by the least PACE", 1, 300, least -> x.ruin(20, 240, paces(least, 300)));
            range("RUIN by the greatest PACE", 1, 300, most -> x.ruin(20, 240, paces(1, most)));
            due("least above greatest SIZE", x.ruin(20, 4039, 1300), NONE);
            due("least as greatest SIZE", x.ruin(20, 4040, 1300), 0);
            due("least above greatest PACE", x.ruin(20, 240, 300_299), NONE);
            due("least as greatest PACE", x.ruin(20, 240, 300_300), 0);
            due("asking is no refusal", x.count(3), 0);
        });
        edge("(sizes: 100 times the least and the greatest; paces: 1,000 times the least and the greatest)", () -> {
            MillRow x = with(SHORT);
            for (int none : new int[] {0, -1, 40, 2, 99, 100, 200, -240, Integer.MIN_VALUE, Integer.MAX_VALUE}) {
                due("sizes " + none, x.ruin(20, none, 1300), NONE);
            }
            for (int none : new int[] {0, -1, 300, 1, 999, 1000, 1999, -1300, Integer.MIN_VALUE, Integer.MAX_VALUE}) {
                due("paces " + none, x.ruin(20, 240, none), NONE);
            }
        });
    }

    private static int sizes(int least, int most) {
        return least < 0 || least > 1000 || most < 0 || most > 99 ? -1 : 100 * least + most;
    }

    private static int paces(int least, int most) {
        return least < 0 || least > 1000 || most < 0 || most > 999 ? -1 : 1000 * least + most;
    }

    private static void ruin() {
        promise(28);
        edge("of all mills told those that it may be: WIDE at most PIT, SIZE, PACE within", () -> {
            MillRow x = with("wheel over 10 wide 3 buckets 20 deep 12;pace 60;");
            int[][] cases = {{3, 1010, 60_060, 1}, {2, 1010, 60_060, 0}, {4, 1010, 60_060, 1}, {3, 1111, 60_060, 0}, {3, 909, 60_060, 0}, {3, 911, 60_060, 1},
                {3, 1010, 61_061, 0}, {3, 1010, 59_059, 0}, {3, 1010, 59_061, 1}, {3, 1040, 60_300, 1}, {3, 210, 1_060, 1}, {3, 1140, 60_060, 0}, {3, 209, 60_060, 0},
                {3, 1010, 61_300, 0}, {3, 1010, 1_059, 0}};
            for (int[] c : cases) {
                due("RUIN by " + c[0] + " " + c[1] + " " + c[2], x.ruin(c[0], c[1], c[2]), c[3]);
            }
        });
        edge("RUIN: MILLS that it may be", () -> {
            MillRow x = with("wheel over 2 wide 1 buckets 4 deep 1;pace 1;", "wheel under 40 wide 20 buckets 80 deep 24;pace 300;");
            tell(x, 5, BASE);
            due("all", x.ruin(20, 240, 1_300), 1 | 2 | 32);
            due("the least", x.ruin(1, 202, 1_001), 1);
            due("the greatest, under", x.ruin(20, 4040, 300_300), 2);
            due("the last", x.ruin(2, 1010, 50_050), 32);
            due("none", x.ruin(1, 340, 1_300), 0);
            due("none of no MILLS", new MillRow().ruin(20, 240, 1_300), 0);
        });
    }

    private static void load() {
        promise(29);
        edge("LOAD of a step of a turn told next: how many steps. NONE, doing nothing but REFUSED: not as told, 24 are there.", () -> {
            MillRow x = with(BASE);
            refused(x, 0, NONE, "LOAD -1", () -> x.load(-1));
            refused(x, 0, NONE, "LOAD 10,000", () -> x.load(10_000));
            for (int i = 1; i <= 24; i++) {
                due("LOAD", x.load(i == 1 ? 0 : 9_999), i);
            }
            refused(x, 1, NONE, "the 25th", () -> x.load(5));
            refused(x, 0, NONE, "not as told goes first", () -> x.load(-1));
            due("steps", x.count(6), 24);
            due("RIM of these", x.rim(), 9_582 + 9);
        });
        edge("up to 24 steps of a turn with a LOAD each (0 to 9,999)", () -> {
            MillRow x = new MillRow();
            range("LOAD", 0, 9_999, x::load);
            due("steps", x.count(6), 2);
        });
    }

    private static void rim() {
        promise(30);
        edge("RIM (NONE: no steps); all steps are gone behind it.", () -> {
            MillRow x = with(BASE);
            nothing(x, NONE, "RIM of a new object", x::rim);
            x.load(7);
            due("of one step", x.rim(), 0);
            due("steps", x.count(6), 0);
            nothing(x, NONE, "RIM of none", x::rim);
            due("the first again", x.load(9_999), 1);
            due("of one step", x.rim(), 0);
        });
        edge("SURPLUS, at first 0, is more behind each step by all LOADS by how many (cut) less its own: what the greatest one is above the least.", () -> {
            int[][] loads = {{10, 0, 0, 10}, {0, 10}, {10, 0}, {5, 5, 5}, {0, 0}, {1, 0}, {0, 1}, {0, 9_999, 1}, {0, 0, 2}, {9_999}, {3, 0, 0}};
            int[] rims = {10, 5, 5, 0, 0, 1, 1, 6_666, 2, 0, 2};
            for (int i = 0; i < loads.length; i++) {
                MillRow x = new MillRow();
                for (int v : loads[i]) {
                    x.load(v);
                }
                due("RIM of " + Arrays.toString(loads[i]), x.rim(), rims[i]);
            }
        });
        edge("up to 24 steps", () -> {
            MillRow x = new MillRow();
            for (int i = 0; i < 24; i++) {
                x.load(i < 12 ? 0 : 9_999);
            }
            due("the most", x.rim(), 12 * 4_999 + 12);
            for (int i = 0; i < 24; i++) {
                due("steps anew", x.load(i < 12 ? 9_999 : 0), i + 1);
            }
            due("the most", x.rim(), 12 * 5_000);
        });
    }

    private static void fall() {
        promise(36);
        edge("A FALL for sale (price 1 to 9,999): how many there are. NONE, doing nothing but REFUSED: not as told, 9 are there.", () -> {
            MillRow x = with(BASE);
            refused(x, 0, NONE, "feet 1", () -> x.fall(1, 5));
            refused(x, 0, NONE, "feet 41", () -> x.fall(41, 5));
            refused(x, 0, NONE, "feet -2", () -> x.fall(-2, 5));
            refused(x, 0, NONE, "price 0", () -> x.fall(2, 0));
            refused(x, 0, NONE, "price 10,000", () -> x.fall(2, 10_000));
            refused(x, 0, NONE, "price -1", () -> x.fall(2, -1));
            int[][] falls = {{2, 1}, {40, 1}, {2, 9_999}, {40, 9_999}, {5, 5}, {5, 5}, {5, 5}, {5, 5}, {5, 5}};
            for (int i = 0; i < 9; i++) {
                due("FALL", x.fall(falls[i][0], falls[i][1]), i + 1);
            }
            refused(x, 1, NONE, "the 10th", () -> x.fall(5, 5));
            refused(x, 0, NONE, "not as told goes first", () -> x.fall(1, 5));
            due("FALLS", x.count(8), 9);
        });
        edge("FALLS for sale, up to 9: feet 2 to 40, a price.", () -> {
            MillRow x = new MillRow();
            due("the least of a new object", x.fall(2, 1), 1);
            due("the most", x.fall(40, 9_999), 2);
        });
    }

    private static void buyArguments() {
        promise(37);
        edge("BUY (coins 0 to 99,999): the set (what 0; bits), its YIELD (1), its price (2). NONE: none such (over).", () -> {
            MillRow x = with(BASE, UNDER);
            x.fall(10, 100);
            range("BUY by coins", 0, 99_999, coins -> x.buy(0, 6000, coins, 0));
            range("BUY by FLOW", 0, 99_999, flow -> x.buy(0, flow, 100, 0));
            range("BUY", 0, 2, what -> x.buy(0, 6000, 100, what));
            mills("BUY", NONE, mill -> x.buy(mill, 6000, 100, 0), 0);
            due("asking is no refusal", x.count(3), 0);
        });
        edge("of all sets of at most so many coins together", () -> {
            MillRow x = with(BASE);
            for (int what = 0; what < 3; what++) {
                due("no FALLS for sale", x.buy(0, 6000, 99_999, what), 0);
            }
            x.fall(10, 100);
            x.fall(20, 150);
            int[] coins = {0, 99, 100, 149, 150, 249, 250, 99_999};
            int[] sets = {0, 0, 1, 1, 2, 2, 3, 3};
            int[] prices = {0, 0, 100, 100, 150, 150, 250, 250};
            for (int i = 0; i < coins.length; i++) {
                due("the set by " + coins[i], x.buy(0, 6000, coins[i], 0), sets[i]);
                due("its price by " + coins[i], x.buy(0, 6000, coins[i], 2), prices[i]);
                due("nothing by no FLOW", x.buy(0, 0, coins[i], 0), 0);
            }
        });
    }

    private static void buy() {
        promise(37);
        edge("of several the least bits", () -> {
            MillRow x = with(BASE);
            x.fall(10, 5);
            x.fall(10, 5);
            x.fall(10, 1);
            due("one of three", x.buy(0, 6000, 9, 0), 1 | 4);
            due("one of three", x.buy(0, 6000, 5, 0), 1);
            due("the one that is paid", x.buy(0, 6000, 4, 0), 4);
            due("two of three", x.buy(0, 6000, 10, 0), 3);
            due("all", x.buy(0, 6000, 11, 0), 7);
            MillRow y = with(BASE + "rub 9999;");
            y.fall(10, 1);
            y.fall(2, 1);
            due("none, as none gives anything", y.buy(0, 100, 99_999, 0), 0);
            due("its price", y.buy(0, 100, 99_999, 2), 0);
        });
        edge("that with the most YIELD of the mill's wheel (over), each with SIZE as many feet, by FLOW (its PACE, nothing BELOW)", () -> {
            int[] feet = {10, 20, 2, 40, 12, 12, 5, 7, 30};
            int[] prices = {100, 150, 9_999, 70, 60, 60, 1, 2, 90};
            MillRow x = with(BASE + "pace 21;rub 3;");
            long[] yields = new long[9];
            for (int i = 0; i < 9; i++) {
                x.fall(feet[i], prices[i]);
                MillRow one = with("wheel over " + feet[i] + " wide 2 buckets 20 deep 12 slant 5 at 0;pace 21;rub 3;");
                yields[i] = one.gives(0, 6000, 21, 0, 0);
            }
            for (int coins : new int[] {0, 1, 60, 121, 400, 532, 533, 10_531, 10_532, 99_999}) {
                long[] best = new long[3];
                for (int set = 0; set < 512; set++) {
                    long gain = 0;
                    long price = 0;
                    for (int i = 0; i < 9; i++) {
                        gain += (set >> i & 1) * yields[i];
                        price += (set >> i & 1) * prices[i];
                    }
                    best = price <= coins && gain > best[1] ? new long[] {set, gain, price} : best;
                }
                for (int what = 0; what < 3; what++) {
                    due("BUY " + what + " by " + coins, x.buy(0, 6000, coins, what), best[what]);
                }
            }
        });
        edge("FALLS for sale, up to 9", () -> {
            MillRow x = with(BASE);
            for (int i = 0; i < 9; i++) {
                x.fall(10, 9_999);
            }
            due("all nine", x.buy(0, 6000, 89_991, 0), 511);
            due("their YIELD", x.buy(0, 6000, 89_991, 1), 9 * x.gives(0, 6000, 50, 0, 0));
            due("their price", x.buy(0, 6000, 89_991, 2), 89_991);
            due("one coin less", x.buy(0, 6000, 89_990, 0), 255);
            refused(x, 1, NONE, "a 10th that is better", () -> x.fall(40, 1));
            due("all nine still", x.buy(0, 6000, 99_999, 0), 511);
            due("one still", x.buy(0, 6000, 9_999, 0), 1);
        });
    }

    private static void count() {
        promise(45);
        edge("NONE for others.", () -> {
            MillRow x = new MillRow();
            range("count", 0, 9, x::count);
            due("asking is no refusal", x.count(3), 0);
        });
        edge("0 MILLS told, 1 bytes on the tape, 2 IMAGES", () -> {
            MillRow x = new MillRow();
            for (int mill = 0; mill < 6; mill++) {
                due("MILLS", x.count(0), mill);
                tell(x, mill, SHORT);
                tell(x, mill, SHORT);
                due("tape", x.count(1), 0);
            }
            due("all MILLS", x.count(0), 6);
            for (int i = 0; i < 40; i++) {
                due("tape", x.count(1), Math.min(700, 20 * i));
                due("IMAGES", x.count(2), Math.min(3, i));
                x.feed(0, 0, 0, 0, 0);
                x.image();
            }
        });
        edge("6 steps told, 7 LEVELS SEEN, 8 FALLS, 9 ORDERS.", () -> {
            MillRow x = with(SHORT);
            int[] most = {24, 30, 9, 8};
            for (int i = 0; i < 32; i++) {
                for (int what = 6; what < 10; what++) {
                    due("count " + what, x.count(what), Math.min(most[what - 6], i));
                }
                x.load(1);
                x.seen(0, 1);
                x.fall(2, 1);
                x.order(1, 1);
            }
        });
    }

    private static void countRefused() {
        promise(45);
        edge("REFUSED: calls that tell something and don't do it, by reason: 0 not as told, 1 no more room (if as told), 2 a FAULT.", () -> {
            MillRow x = new MillRow();
            x.mill(6, 0);
            x.day(40, 0, false);
            x.hours(1);
            x.flood(40);
            x.seed(-1);
            x.guilt(0, 100);
            x.seen(0, 101);
            x.load(-1);
            x.fall(1, 1);
            x.order(0, 1);
            x.restore(0);
            due("not as told", x.count(3), 11);
            tell(x, 0, "x");
            tell(x, 0, "");
            due("a FAULT", x.count(5), 2);
            due("no room as yet", x.count(4), 0);
        });
        edge("REFUSED: calls that tell something and don't do it, by reason: 0 not as told, 1 no more room (if as told), 2 a FAULT.", () -> {
            MillRow x = with(SHORT);
            hours(x, 960);
            for (int i = 0; i < 31; i++) {
                x.load(1);
                x.seen(0, 1);
                x.fall(2, 1);
                x.order(1, 1);
                x.image();
            }
            x.hours(1);
            due("no room", x.count(4), 7 + 1 + 22 + 23 + 28 + 1);
            due("as told all", x.count(3), 0);
            due("no FAULT", x.count(5), 0);
        });
        edge("REFUSED: calls that tell something and don't do it", () -> {
            MillRow x = with(BASE);
            for (int i = 0; i < 36; i++) {
                x.feed(0, 0, 0, 0, 0);
            }
            x.told(9, 9);
            x.sine(-1, 9);
            x.bucket(9, 0, 0, 9);
            x.holds(0, 0, 0);
            x.work(0, -1, 0, 0);
            x.gives(0, 0, 0, 0, 0);
            x.best(0, 0, 0, 0, 9);
            x.parts(0, 0, 0);
            x.grid(0, 0, 0, 0, 0);
            x.model(0, 0, 0, 0);
            x.flow(40);
            x.ground(9, 9);
            x.water(9);
            x.shift(0, 0, 0, 0);
            x.rests(0, 0, 0);
            x.all(0, 0, 0);
            x.raised(9);
            x.ruin(0, 0, 0);
            x.rim();
            x.teeth(0, 0, 0);
            x.losses(9, 0, 0, 0);
            x.night(0, 0, 24, 0, 0);
            x.versus(0, 0, 0, 0);
            x.balance(0, 0, 0, 0);
            x.buy(0, 0, -1, 0);
            x.sleep(0, 9);
            x.comes(9);
            x.served(0, -1);
            x.dry(9, 0, 0);
            x.count(10);
            due("what only asks is not REFUSED", x.count(3) + x.count(4) + x.count(5), 0);
        });
    }

    private static void calls() {
        promise(0);
        edge("An object is used for at most 512 calls after it has been made", () -> {
            MillRow x = new MillRow();
            for (int i = 0; i < 511; i++) {
                x.seed(-1);
            }
            due("the 512th call counts all before", x.count(3), 511);
        });
        edge("An object is used for at most 512 calls after it has been made", () -> {
            MillRow x = brook(1000, BASE + "pond 9999;gate 600;");
            for (int call = 7; call <= 511; call++) {
                due("call " + call, x.hours(1), call - 6);
            }
            due("the 512th call", x.ground(0, 1), 24);
        });
        edge("An object is used for at most 512 calls after it has been made", () -> {
            MillRow x = new MillRow();
            String text = SHORT + "gate 7 if hour<1" + " and hour<1".repeat(58);
            for (int round = 0; round < 14; round++) {
                due("a full tape in round " + round, tell(x, 4, text + " ".repeat(699 - text.length()) + ";"), 2);
            }
            due("open in one hour alone", x.sleep(4, 0), 23);
            due("the first", x.sleep(4, 1), 1);
        });
        edge("An object is used for at most 512 calls after it has been made", () -> {
            MillRow x = new MillRow();
            for (int round = 0; round < 102; round++) {
                due("feed", x.feed(0x77686565, 0x6c206f76, 0x65722033, 0x20776964, 0x6520320a), 20);
                due("feed", x.feed(0x6275636b, 0x65747320, 0x34206465, 0x65702035, 0x3b0a0a0a), 40);
                due("mill", x.mill(round % 6, 40), 1);
                due("image", x.image(), 0);
                due("SIZE", x.told(round % 6, 1), 3);
            }
        });
    }
}
