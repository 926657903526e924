import java.util.Arrays;
import java.util.function.ToLongFunction;

/** Edges of promises 22 to 24 and 38 to 42: what hours to come would bring, of which nothing stays. */
final class EdgesOfDaysAhead extends Edges {
    private static final String NOT_24 = "NONE: none such, not 24 HOURS are left.";

    static void all() {
        shiftArguments();
        shift();
        rests();
        restsArguments();
        allGrind();
        sleep();
        comes();
        order();
        served();
        servedInTime();
        dry();
        lastDay();
    }

    private static void shiftArguments() {
        promise(22);
        edge("opens its GATE for so many hours (1 to 12, over midnight, too)", () -> {
            MillRow x = brook(1000, BASE + "pond 1000;");
            range("SHIFT by hours", 1, 12, hours -> x.shift(hours, 600, 0, 0));
            long hour = x.gives(0, 1000, 50, 60, 0);
            due("one hour", x.shift(1, 600, 0, 0), hour);
            due("twelve hours", x.shift(12, 600, 0, 0), 12 * hour);
            due("twelve hours over midnight", x.shift(12, 600, 48, 0), 6 * hour + 6 * hour);
            due("six hours to midnight", x.shift(6, 600, 48, 0), 6 * hour);
        });
        edge("SHIFTS by hours and OPEN (0 to 999), a way: what the k-th of them grinds. NONE: none such, not 24 HOURS are left.", () -> {
            MillRow x = brook(1000, BASE + "pond 1000;", BASE, UNDER, BASE);
            range("SHIFT by OPEN", 0, 999, open -> x.shift(5, open, 0, 0));
            range("SHIFT by k", 0, 2, k -> x.shift(5, 600, 0, k));
            range("SHIFT by way", 0, 63, way -> x.shift(5, 600, way, 0));
            due("nothing through a shut GATE", x.shift(5, 0, 0, 0), 0);
            due("asking is no refusal", x.count(3), 0);
        });
        edge("A way: 16 times the first one's beginning (0 to 3), 4 times the second one's, the third one's (those there aren't: 0).", () -> {
            MillRow one = brook(1000, BASE);
            MillRow two = brook(1000, BASE, BASE);
            MillRow three = brook(1000, BASE, BASE, BASE);
            for (int way = 0; way < 64; way++) {
                due("way " + way + " of one", one.shift(5, 600, way, 0) >= 0, way % 16 == 0);
                due("way " + way + " of two", two.shift(5, 600, way, 1) >= 0, way % 4 == 0);
                due("way " + way + " of three", three.shift(5, 600, way, 2) >= 0, true);
            }
            due("no second of one", one.shift(5, 600, 0, 1), NONE);
            due("no third of two", two.shift(5, 600, 0, 2), NONE);
        });
        edge("none such", () -> {
            MillRow x = new MillRow();
            due("of no MILLS", x.shift(5, 600, 0, 0), NONE);
            tell(x, 5, SHORT);
            due("of the last alone", x.shift(5, 600, 0, 0), 0);
        });
    }

    private static void shift() {
        promise(22);
        edge("each begins at hour 0, 6, 12 or 18", () -> {
            for (int begin = 0; begin < 4; begin++) {
                MillRow x = brook(1000, BASE + "pond 1000;gate 999;");
                hours(x, 6 * begin);
                due("at once, by what comes", x.shift(1, 999, 16 * begin, 0), x.gives(0, 1000, 50, 60, 0));
                hours(x, 1);
                due("tomorrow, by what stands in the POND", x.shift(1, 999, 16 * begin, 0), x.gives(0, 1665, 50, 60, 0));
                MillRow y = brook(1000, BASE + "pond 1000;gate 999;");
                hours(y, (6 * begin + 23) % 24);
                y.day(1, 1000, false);
                due("in an hour, by what came", y.shift(1, 999, 16 * begin, 0), y.gives(0, 1665, 50, 60, 0));
            }
        });
        edge("SHIFTS of up to 3 mills (of those told the first)", () -> {
            MillRow x = new MillRow();
            for (int mill = 1; mill < 6; mill++) {
                tell(x, mill, BASE + "pond 9999;gate 500;");
            }
            x.day(0, 1000, false);
            long hour = x.gives(1, 833, 50, 60, 0);
            due("the first of those told", x.shift(12, 500, 0, 0), 12 * hour);
            due("the second", x.shift(12, 500, 0, 1), 11 * hour);
            due("the third", x.shift(12, 500, 0, 2), 10 * hour);
            due("the fourth by its rules, so none of them", x.shift(12, 500, 0, 3), NONE);
        });
        edge("by an OPEN, else not at all, in place of its rules", () -> {
            MillRow x = brook(1000, BASE + "pond 9999;gate 600;", BASE + "pond 9999;", BASE + "pond 9999;", BASE + "pond 9999;gate 9;");
            MillRow one = brook(1000, UNDER + "pond 9999;pace 1;");
            due("one pint-foot in one hour, in the others not at all", one.shift(1, 1, 0, 0), 1);
            due("in twelve hours", one.shift(12, 1, 16, 0), 12);
            due("not at all", one.shift(12, 0, 16, 0), 0);
            due("not at all", x.shift(1, 0, 0, 0), 0);
            due("so many hours alone", x.shift(2, 600, 0, 0), 2 * x.gives(0, 1000, 50, 60, 0));
            due("no gate told", x.shift(2, 600, 25, 1), 2 * x.gives(1, 1000, 50, 60, 0));
            MillRow y = brook(1000, BASE + "pond 9999;gate 600;", BASE + "pond 9999;gate 600;", BASE + "pond 9999;gate 600;nail 0;",
                    BASE + "pond 9999;gate 600 if hour<20;");
            long third = y.shift(12, 600, 0, 2);
            y.served(3, 0);
            due("a fourth has its rules, whatever was asked before", y.shift(12, 600, 0, 2), third);
            tell(y, 3, BASE + "pond 9999;");
            due("a fourth has its rules", third > y.shift(12, 600, 0, 2), true);
        });
        edge("(nothing stays of it)", () -> {
            MillRow x = brook(1000, BASE + "pond 9999;gate 600;");
            hours(x, 3);
            nothing(x, 2 * x.gives(0, 1000, 50, 60, 0), "SHIFT", () -> x.shift(2, 600, 16, 0));
            due("ground", x.ground(0, 1), 3);
        });
    }

    /** Beginnings in a way, as the document counts them. */
    private static int begins(int way, int k) {
        return k == 0 ? way / 16 : k == 1 ? way / 4 % 4 : way % 4;
    }

    /** All that are a REST behind so many hours, by what each grinds by each way. */
    private static void restsAre(int flow, int gone, int hours, int open, String... texts) {
        int many = texts.length;
        int step = many == 1 ? 16 : many == 2 ? 4 : 1;
        MillRow x = brook(flow, texts);
        hours(x, gone);
        long[][] grinds = new long[64][many];
        for (int way = 0; way < 64; way += step) {
            for (int k = 0; k < many; k++) {
                grinds[way][k] = x.shift(hours, open, way, k);
            }
        }
        int found = 0;
        for (int way = 0; way < 64; way += step) {
            boolean rest = true;
            for (int k = 0; k < many; k++) {
                for (int begin = 0; begin < 4; begin++) {
                    int other = way + (begin - begins(way, k)) * (k == 0 ? 16 : k == 1 ? 4 : 1);
                    rest &= grinds[other][k] <= grinds[way][k];
                }
            }
            if (rest) {
                due("the REST " + found, x.rests(hours, open, found), way);
                found++;
            }
        }
        due("REST of " + many, x.rests(hours, open, NONE), found);
        due("no more", x.rests(hours, open, found), NONE);
    }

    private static void rests() {
        promise(23);
        edge("A REST: nobody grinds more by another beginning alone.", () -> {
            restsAre(300, 0, 5, 250, BASE + "pond 300;nail 0;");
            restsAre(300, 0, 5, 250, BASE + "pond 300;nail 0;", BASE + "pond 300;nail 10;");
            restsAre(300, 0, 5, 250, BASE + "pond 300;nail 0;", BASE + "pond 300;nail 10;", BASE + "pond 200;");
            restsAre(1300, 23, 11, 600, BASE + "pond 900;nail 2;", BASE + "pond 500;nail 22;", BASE + "pond 1000;nail 14;");
            restsAre(200, 1, 9, 900, BASE + "pond 800;nail 40;", BASE + "pond 900;", BASE + "pond 300;");
        });
        edge("A REST: nobody grinds more by another beginning alone.", () -> {
            String[] texts = {BASE + "pond 300;", BASE + "pond 300;", BASE + "pond 300;"};
            int[] all = {4, 16, 64};
            for (int many = 1; many <= 3; many++) {
                MillRow x = with(Arrays.copyOf(texts, many));
                int ways = all[many - 1];
                due("as nobody grinds anything", x.rests(5, 250, NONE), ways);
                range("REST", NONE, ways - 1, k -> x.rests(5, 250, k));
                due("the last", x.rests(5, 250, ways - 1), 64 - 64 / ways);
            }
        });
    }

    private static void restsArguments() {
        promise(23);
        edge("nobody grinds more by another beginning alone", () -> {
            MillRow x = with(BASE + "pond 700;");
            x.day(1, 1000, false);
            hours(x, 7);
            due("by the first beginning alone there's water", x.rests(6, 600, NONE), 1);
            due("by the first beginning alone there's water", x.rests(6, 600, 0), 0);
            MillRow y = brook(1000, BASE + "pond 700;gate 600;");
            hours(y, 18);
            due("by the last beginning alone there's water", y.rests(6, 600, NONE), 1);
            due("by the last beginning alone there's water", y.rests(6, 600, 0), 48);
        });
        edge("How many ways are a REST (k NONE), the k-th (by numbers). NONE: none such, no MILLS, not 24 HOURS are left.", () -> {
            MillRow x = brook(1000, BASE + "pond 1000;");
            due("how many", x.rests(6, 600, NONE), 4);
            for (int k = 0; k < 4; k++) {
                due("the " + k + "th", x.rests(6, 600, k), 16 * k);
            }
            due("no 4th", x.rests(6, 600, 4), NONE);
            due("k -2", x.rests(6, 600, -2), NONE);
            due("k the least", x.rests(6, 600, Integer.MIN_VALUE), NONE);
            due("k the greatest", x.rests(6, 600, Integer.MAX_VALUE), NONE);
            range("REST by hours", 1, 12, hours -> x.rests(hours, 600, NONE));
            range("REST by OPEN", 0, 999, open -> x.rests(6, open, NONE));
            due("asking is no refusal", x.count(3), 0);
        });
        edge("none such, no MILLS, not 24 HOURS are left.", () -> {
            MillRow x = new MillRow();
            due("no MILLS", x.rests(6, 600, NONE), NONE);
            due("no MILLS", x.rests(6, 600, 0), NONE);
            tell(x, 3, SHORT);
            due("one", x.rests(6, 600, NONE), 4);
        });
        edge("(nothing stays of it)", () -> {
            MillRow x = brook(1000, BASE + "pond 1000;gate 600;");
            hours(x, 5);
            nothing(x, 3, "REST", () -> x.rests(6, 600, NONE));
        });
    }

    private static void allGrind() {
        promise(24);
        edge("ALL GRIND (least 0 to 999,999,999): the way.", () -> {
            MillRow x = brook(1000, BASE + "pond 1000;");
            long most = 6 * x.gives(0, 1000, 50, 60, 0);
            due("least 0", x.all(6, 600, 0), 0);
            due("just so much", x.all(6, 600, (int) most), 0);
            due("not so much", x.all(6, 600, (int) most + 1), NONE);
            due("least 999,999,999", x.all(6, 600, 999_999_999), NONE);
            range("ALL GRIND by hours", 1, 12, hours -> x.all(hours, 600, 0));
            range("ALL GRIND by OPEN", 0, 999, open -> x.all(6, open, 0));
        });
        edge("ALL GRIND (least 0 to 999,999,999): the way.", () -> {
            MillRow x = brook(99_999, "wheel over 40 wide 20 buckets 4 deep 24 slant 9 at 0;pond 9999;");
            for (int least : new int[] {-1, Integer.MIN_VALUE, 1_000_000_000, Integer.MAX_VALUE}) {
                due("least " + least, x.all(12, 999, least), NONE);
            }
            due("asking is no refusal", x.count(3), 0);
        });
        edge("the first way by which each of them grinds at least so much", () -> {
            MillRow x = new MillRow();
            tell(x, 1, BASE + "pond 600;");
            tell(x, 2, BASE + "pond 600;");
            tell(x, 4, BASE + "pond 600;");
            tell(x, 5, BASE + "pond 600;");
            x.day(0, 1000, false);
            hours(x, 12);
            long hour = x.gives(1, 1000, 50, 60, 0);
            for (int least : new int[] {1, (int) hour, (int) (2 * hour), (int) (3 * hour), (int) (5 * hour)}) {
                int first = NONE;
                for (int way = 63; way >= 0; way--) {
                    boolean each = true;
                    for (int k = 0; k < 3 && each; k++) {
                        each = shiftOf(way, k) >= least;
                    }
                    first = each ? way : first;
                }
                due("at least " + least, x.all(5, 600, least), first);
            }
        });
        edge("NONE: there's none, none such, no MILLS, not 24 HOURS are left.", () -> {
            MillRow x = new MillRow();
            due("no MILLS", x.all(6, 600, 0), NONE);
            tell(x, 3, SHORT);
            due("one", x.all(6, 600, 0), 0);
            due("there's none", x.all(6, 600, 1), NONE);
        });
        edge("(nothing stays of it)", () -> {
            MillRow x = brook(1000, BASE + "pond 1000;gate 600;");
            hours(x, 5);
            nothing(x, 0, "ALL GRIND", () -> x.all(6, 600, 1));
        });
    }

    private static long shiftOf(int way, int k) {
        MillRow x = new MillRow();
        for (int mill : new int[] {1, 2, 4, 5}) {
            tell(x, mill, BASE + "pond 600;");
        }
        x.day(0, 1000, false);
        hours(x, 12);
        return x.shift(5, 600, way, k);
    }

    private static void sleep() {
        promise(38);
        edge("the longest row of hours in which a GATE's rules tell the same", () -> {
            String[] rules = {"", "gate 5;", "gate 1 if hour<7;", "gate 1 if hour>6;", "gate 3 if hour<8;gate 3 if hour<12;gate 4 if hour<20;gate 3;",
                "gate 1 if hour=23;", "gate 1 if hour=0;", "gate 1 if hour<12;", "gate 0 if hour<5;", "gate 1 if hour<8;gate 2 if hour<16;",
                "gate 1 if hour<8;gate 2 if hour<15;gate 3 if hour<23;"};
            int[][] rows = {{24, 0}, {24, 0}, {17, 7}, {17, 7}, {12, 0}, {23, 0}, {23, 1}, {12, 0}, {24, 0}, {8, 0}, {8, 0}};
            for (int i = 0; i < rules.length; i++) {
                MillRow x = with(BASE + rules[i]);
                due("how many hours by " + rules[i], x.sleep(0, 0), rows[i][0]);
                due("the first by " + rules[i], x.sleep(0, 1), rows[i][1]);
            }
        });
        edge("the longest row of hours in which a GATE's rules tell the same", () -> {
            MillRow x = with(BASE + "gate 1 if hour=0;gate 1 if hour=2;gate 1 if hour=4;gate 1 if hour=6;gate 1 if hour=8;gate 1 if hour=10;"
                    + "gate 1 if hour=12;gate 1 if hour=14;gate 1 if hour=16;gate 1 if hour=18;gate 1 if hour=20;gate 1 if hour=22;");
            due("one hour", x.sleep(0, 0), 1);
            due("the first", x.sleep(0, 1), 0);
        });
        edge("how many hours (what 0), the first of the row from now (1; 0 on; of several rows the first)", () -> {
            MillRow x = with(BASE + "gate 1 if hour<7;", UNDER + "gate 2 if hour>11;");
            due("from hour 0", x.sleep(0, 1), 7);
            due("the first of several", x.sleep(1, 1), 0);
            hours(x, 10);
            due("over midnight", x.sleep(0, 0), 14);
            due("from hour 10", x.sleep(0, 1), 0);
            due("of several rows", x.sleep(1, 0), 12);
            due("the first from hour 10", x.sleep(1, 1), 2);
            due("nothing stays", x.water(4), 10);
        });
        edge("SLEEP: how many hours (what 0), the first of the row from now (1; 0 on; of several rows the first). NONE: none such, not 24 HOURS are left.",
                () -> {
            MillRow x = with(BASE, UNDER);
            range("SLEEP", 0, 1, what -> x.sleep(0, what));
            mills("SLEEP", NONE, mill -> x.sleep(mill, 0), 0, 1);
            due("asking is no refusal", x.count(3), 0);
        });
    }

    private static void comes() {
        promise(39);
        edge("COMES (0: in the next hour). NONE: not in 24, none such, not 24 HOURS are left.", () -> {
            MillRow x = with(BASE + "pond 10;gate 1 if hour=3;", SHORT, UNDER);
            due("no water", x.comes(0), NONE);
            x.day(0, 1, false);
            due("water that is cut", x.comes(0), NONE);
            x.day(0, 2, false);
            due("in the next hour", x.comes(0), 0);
            due("behind the gate", x.comes(1), 4);
            due("not in 24", x.comes(2), NONE);
            hours(x, 4);
            due("on the way", x.comes(1), 0);
            hours(x, 1);
            due("what goes OVER", x.comes(1), 7);
            x.day(0, 2, true);
            due("ICE", x.comes(0), NONE);
            mills("COMES", NONE, mill -> mill == 0 ? 0 : mill < 3 && mill > 0 ? mill : x.comes(mill), 0, 1, 2);
        });
        edge("NONE: not in 24", () -> {
            MillRow x = with(BASE);
            x.day(1, 2, false);
            due("in the 25th", x.comes(0), NONE);
            hours(x, 1);
            due("in the 24th", x.comes(0), 23);
            nothing(x, 23, "COMES", () -> x.comes(0));
            hours(x, 22);
            due("in the 2nd", x.comes(0), 1);
            hours(x, 25);
            due("none then", x.comes(0), NONE);
        });
        edge("none such", () -> {
            MillRow x = brook(1000, BASE + "gate 5;", UNDER);
            hours(x, 2);
            mills("COMES", NONE, x::comes, 0, 1);
            due("asking is no refusal", x.count(3), 0);
        });
    }

    private static void order() {
        promise(40);
        edge("An ORDER (WORK 1 to 999,999,999): how many there are. NONE, doing nothing but REFUSED: not as told, 8 are there.", () -> {
            MillRow x = with(BASE);
            refused(x, 0, NONE, "WORK 0", () -> x.order(5, 0));
            refused(x, 0, NONE, "WORK -1", () -> x.order(5, -1));
            refused(x, 0, NONE, "WORK 1,000,000,000", () -> x.order(5, 1_000_000_000));
            refused(x, 0, NONE, "hours 0", () -> x.order(0, 5));
            refused(x, 0, NONE, "hours 25", () -> x.order(25, 5));
            refused(x, 0, NONE, "hours -1", () -> x.order(-1, 5));
            int[][] orders = {{1, 1}, {24, 1}, {1, 999_999_999}, {24, 999_999_999}, {5, 5}, {5, 5}, {5, 5}, {5, 5}};
            for (int i = 0; i < 8; i++) {
                due("ORDER", x.order(orders[i][0], orders[i][1]), i + 1);
            }
            due("ORDERS", x.count(9), 8);
            refused(x, 1, NONE, "the 9th", () -> x.order(5, 5));
            refused(x, 0, NONE, "not as told goes first", () -> x.order(25, 5));
        });
        edge("ORDERS, up to 8: by so many hours from now on (1 to 24) some WORK.", () -> {
            MillRow x = new MillRow();
            due("the least of a new object", x.order(1, 1), 1);
            due("the most", x.order(24, 999_999_999), 2);
        });
    }

    private static void served() {
        promise(41);
        edge("SERVED (OPEN 0 to 999), as bits. NONE: none such, not 24 HOURS are left.", () -> {
            MillRow x = brook(1000, BASE, UNDER);
            range("SERVED by OPEN", 0, 999, open -> x.served(0, open));
            mills("SERVED", NONE, mill -> x.served(mill, 5), 0, 1);
            due("no ORDERS", x.served(0, 999), 0);
            due("asking is no refusal", x.count(3), 0);
        });
        edge("its GATE always OPEN so wide in these", () -> {
            MillRow x = brook(1000, BASE + "pond 9999;gate 1 if hour=3;", BASE + "pond 9999;gate 300 if hour<3;");
            int hour = (int) x.gives(0, 1000, 50, 60, 0);
            x.order(24, 24 * hour);
            due("in all hours", x.served(0, 600), 1);
            due("not so wide", x.served(0, 599), 0);
            due("not at all", x.served(0, 0), 0);
            due("the other's GATE by its rules", x.served(1, 600), 0);
            nothing(x, 1, "SERVED", () -> x.served(0, 999));
        });
        edge("its GATE always OPEN so wide in these", () -> {
            MillRow x = brook(500, BASE + "pond 9999;gate 300 if hour<3;", BASE + "pond 9999;");
            int hour = (int) x.gives(1, 500, 50, 60, 0);
            x.order(24, 3 * hour);
            x.order(24, 1);
            due("by what comes from the one above", x.served(1, 300), 1);
            due("all ORDERS by the one above", x.served(0, 300), 3);
            due("the one above by its rules again", x.served(1, 300), 1);
        });
    }

    private static void servedInTime() {
        promise(41);
        edge("which are done in time (behind so many hours)", () -> {
            MillRow x = brook(1000, BASE + "pond 1000;");
            int hour = (int) x.gives(0, 1000, 50, 60, 0);
            x.order(1, hour);
            due("just behind the first hour", x.served(0, 600), 1);
            MillRow y = brook(1000, BASE + "pond 1000;");
            y.order(1, hour + 1);
            due("one too much", y.served(0, 600), 0);
            MillRow z = brook(1000, BASE + "pond 1000;");
            z.order(24, 24 * hour);
            z.order(24, 1);
            due("just behind the last hour", z.served(0, 600), 1);
            hours(z, 1);
            due("from now on", z.served(0, 600), 0);
        });
        edge("what it grinds is for ORDERS by their hours, of several as told", () -> {
            MillRow x = brook(1000, BASE + "pond 1000;");
            int hour = (int) x.gives(0, 1000, 50, 60, 0);
            int[][] orders = {{3, hour}, {1, hour}, {2, hour}, {3, 1}, {4, hour - 1}, {24, 1}};
            int[] served = {1, 3, 7, 7, 7 | 16, 7 | 16 | 32};
            for (int i = 0; i < orders.length; i++) {
                x.order(orders[i][0], orders[i][1]);
                due("behind ORDER " + i, x.served(0, 600), served[i]);
            }
        });
        edge("what it grinds is for ORDERS by their hours, of several as told", () -> {
            MillRow x = brook(1000, BASE + "pond 1000;");
            int hour = (int) x.gives(0, 1000, 50, 60, 0);
            x.order(2, hour + 1);
            x.order(2, hour);
            x.order(2, hour - 1);
            x.order(1, 1);
            due("the first told, and the one by an earlier hour", x.served(0, 600), 1 | 8);
            MillRow y = brook(1000, BASE + "pond 1000;gate 600;");
            hours(y, 5);
            y.order(1, hour + 1);
            due("what was ground before is for none", y.served(0, 600), 0);
        });
        edge("ORDERS, up to 8", () -> {
            MillRow x = brook(1000, BASE + "pond 1000;");
            for (int i = 0; i < 8; i++) {
                x.order(24, 1);
            }
            due("all", x.served(0, 600), 255);
            due("none", x.served(0, 0), 0);
            refused(x, 1, NONE, "a 9th", () -> x.order(1, 999_999_999));
            due("all still", x.served(0, 600), 255);
            MillRow y = brook(1000, BASE + "pond 1000;");
            for (int i = 0; i < 8; i++) {
                y.order(1, 999_999_999);
            }
            due("far too much", y.served(0, 600), 0);
        });
    }

    private static void dry() {
        promise(42);
        edge("DRY: how many DAYS (k NONE), the k-th. NONE: none such.", () -> {
            MillRow x = with(BASE, UNDER);
            range("DRY, all 40 DAYS", NONE, 39, k -> x.dry(0, 1, k));
            due("how many", x.dry(0, 1, NONE), 40);
            due("the first", x.dry(0, 1, 0), 0);
            due("the last", x.dry(0, 1, 39), 39);
            due("none less than nothing", x.dry(0, 0, NONE), 0);
            due("no first", x.dry(0, 0, 0), NONE);
            mills("DRY", NONE, mill -> x.dry(mill, 1, NONE), 0, 1);
            due("asking is no refusal", x.count(3), 0);
        });
        edge("DAYS on which a mill would YIELD less than so much an hour (its PACE, HEAD 60, nothing BELOW; with ICE 0)", () -> {
            MillRow x = with(BASE + "pace 33;nail 0;", UNDER + "pace 33;");
            for (int day = 0; day < 40; day++) {
                x.day(day, 6000, false);
            }
            for (int mill = 0; mill < 2; mill++) {
                int gain = (int) x.gives(mill, 6000, 33, 60, 0);
                due("just so much", x.dry(mill, gain, NONE), 0);
                due("less", x.dry(mill, gain + 1, NONE), 40);
            }
            x.day(0, 6000, true);
            x.day(39, 99_999, true);
            x.day(20, 0, false);
            due("with ICE or without FLOW", x.dry(0, 1, NONE), 3);
            due("the first", x.dry(0, 1, 0), 0);
            due("the second", x.dry(0, 1, 1), 20);
            due("the third", x.dry(0, 1, 2), 39);
            due("no more", x.dry(0, 1, 3), NONE);
            due("with ICE 0 is not less than 0", x.dry(0, 0, NONE), 0);
            due("k -2", x.dry(0, 1, -2), NONE);
        });
    }

    private static void lastDay() {
        promise(22);
        edge(NOT_24, () -> atLast(0, x -> x.shift(3, 5, 0, 0)));
        promise(23);
        edge("none such, no MILLS, not 24 HOURS are left.", () -> atLast(4, x -> x.rests(3, 5, NONE)));
        promise(24);
        edge("there's none, none such, no MILLS, not 24 HOURS are left.", () -> atLast(0, x -> x.all(3, 5, 0)));
        promise(38);
        edge(NOT_24, () -> atLast(12, x -> x.sleep(0, 0)));
        promise(39);
        edge("NONE: not in 24, none such, not 24 HOURS are left.", () -> atLast(0, x -> x.comes(0)));
        promise(41);
        edge(NOT_24, () -> atLast(0, x -> x.served(0, 5)));
    }

    /** What is due when just 24 HOURS are left; with fewer there's none. */
    private static void atLast(long due, ToLongFunction<MillRow> asked) {
        MillRow x = with(BASE + "gate 5 if hour=12;");
        x.day(39, 1000, false);
        hours(x, 936);
        due("24 HOURS are left", asked.applyAsLong(x), due);
        hours(x, 1);
        due("23 HOURS are left", asked.applyAsLong(x), NONE);
        hours(x, 23);
        due("no HOURS are left", asked.applyAsLong(x), NONE);
        due("asking is no refusal", x.count(3) + x.count(4), 0);
    }
}
