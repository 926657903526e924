import java.math.BigInteger;

/** Edges of promises 15 to 21, 33, 43 and 44: days, the hours as they go by, nights, images. */
final class EdgesOfDays extends Edges {
    static void all() {
        days();
        hours();
        comes();
        ponds();
        gates();
        gateWords();
        below();
        wading();
        gone();
        flood();
        drawn();
        seed();
        ground();
        groundAtLeast();
        water();
        nightArguments();
        night();
        image();
        restore();
        restored();
    }

    private static void days() {
        promise(15);
        edge("DAYS 0 to 39, each with a FLOW", () -> {
            MillRow x = new MillRow();
            range("day", 0, 39, 0, day -> x.day(day, 5, false) ? 1 : 0);
            due("REFUSED", x.count(3), 4);
            due("FLOW of the first", x.flow(0), 5);
            due("FLOW of the last", x.flow(39), 5);
        });
        edge("By a FLOW (pints a minute, 0 to 99,999)", () -> {
            MillRow x = new MillRow();
            range("day", 0, 99_999, 0, flow -> x.day(7, flow, false) ? 1 : 0);
            due("REFUSED", x.count(3), 4);
            due("the last as told", x.flow(7), 99_999);
        });
        edge("false, doing nothing but REFUSED: not as told.", () -> {
            MillRow x = with(BASE);
            x.day(0, 1000, true);
            x.day(39, 77, false);
            refused(x, 0, "day -1", () -> x.day(-1, 1, false));
            refused(x, 0, "day 40", () -> x.day(40, 1, false));
            refused(x, 0, "FLOW -1", () -> x.day(0, -1, false));
            refused(x, 0, "FLOW 100,000", () -> x.day(0, 100_000, false));
            due("FLOW of the last stays", x.flow(39), 77);
            hours(x, 1);
            due("ICE stays", x.water(0), 0);
        });
        promise(16);
        edge("FLOW of a DAY. NONE: none such.", () -> {
            MillRow x = new MillRow();
            range("flow", 0, 39, x::flow);
            due("asking is no refusal", x.count(3), 0);
        });
        edge("(pints a minute, told; 0 else)", () -> {
            MillRow x = new MillRow();
            for (int day = 0; day < 40; day++) {
                due("FLOW not told", x.flow(day), 0);
            }
            x.day(3, 9, true);
            due("FLOW told with ICE", x.flow(3), 9);
            due("the DAY before", x.flow(2), 0);
            due("the DAY behind", x.flow(4), 0);
            x.day(3, 0, false);
            due("FLOW told again", x.flow(3), 0);
        });
    }

    private static void hours() {
        promise(17);
        edge("So many HOURS (1 to 96) go by (hour 0 of DAY 0 at first): how many in all.", () -> {
            MillRow x = with(BASE);
            due("one", x.hours(1), 1);
            due("96", x.hours(96), 97);
            refused(x, 0, NONE, "0", () -> x.hours(0));
            refused(x, 0, NONE, "97", () -> x.hours(97));
            refused(x, 0, NONE, "-1", () -> x.hours(-1));
            refused(x, 0, NONE, "the least", () -> x.hours(Integer.MIN_VALUE));
            refused(x, 0, NONE, "the greatest", () -> x.hours(Integer.MAX_VALUE));
            due("in all", x.water(4), 97);
        });
        edge("(hour 0 of DAY 0 at first)", () -> {
            MillRow x = brook(10, BASE + "pond 9999;gate 1 if hour=0 and day=0;");
            hours(x, 1);
            due("in the first hour", x.water(3), 1);
            hours(x, 959);
            due("in no other", x.water(3), 1);
        });
        edge("NONE, doing nothing but REFUSED: not as told, no MILLS (0)", () -> {
            MillRow x = new MillRow();
            x.day(0, 1000, false);
            refused(x, 0, NONE, "no MILLS", () -> x.hours(1));
            refused(x, 0, NONE, "no MILLS", () -> x.hours(96));
            tell(x, 5, SHORT);
            due("one MILL", x.hours(1), 1);
        });
        edge("there would be more than 960 (1)", () -> {
            MillRow x = brook(1000, BASE + "gate 5;");
            hours(x, 864);
            due("just 960", x.hours(95), 959);
            refused(x, 1, NONE, "961", () -> x.hours(2));
            refused(x, 1, NONE, "far beyond", () -> x.hours(96));
            refused(x, 0, NONE, "not as told goes first", () -> x.hours(97));
            due("960", x.hours(1), 960);
            refused(x, 1, NONE, "961", () -> x.hours(1));
        });
        edge("there would be more than 960 (1)", () -> {
            MillRow x = with(BASE);
            for (int i = 1; i <= 10; i++) {
                due("ten times 96", x.hours(96), 96 * i);
            }
            refused(x, 1, NONE, "961", () -> x.hours(1));
        });
        edge("(none: 0; asked: hour 0 to 23, level, flow, day;", () -> {
            MillRow x = brook(10, BASE + "pond 9999;gate 1 if hour=23;gate 2 if hour>23;gate 4 if day=39 and hour=0;gate 8 if day>39;");
            hours(x, 23);
            due("not yet hour 23", x.water(3), 0);
            hours(x, 1);
            due("hour 23", x.water(3), 1);
            hours(x, 23);
            due("from hour 0 on again", x.water(3), 1);
            hours(x, 1);
            due("hour 23 again", x.water(3), 2);
            hours(x, 888);
            due("each DAY's hour 23", x.water(3), 39);
            hours(x, 24);
            due("the last DAY", x.water(3), 39 + 4 + 1);
        });
    }

    private static void comes() {
        promise(17);
        edge("to the first mill come 60 times FLOW by 100 (cut; hundreds of pints; with ICE none)", () -> {
            int[] flows = {0, 1, 2, 3, 5, 99_999};
            int[] comes = {0, 0, 1, 1, 3, 59_999};
            for (int i = 0; i < flows.length; i++) {
                MillRow x = brook(flows[i], BASE);
                hours(x, 1);
                due("what came by " + flows[i], x.water(0), comes[i]);
            }
        });
        edge("to the first mill come 60 times FLOW by 100 (cut; hundreds of pints; with ICE none)", () -> {
            MillRow x = with(BASE);
            x.day(0, 1000, true);
            x.day(1, 1000, false);
            x.day(2, 99_999, true);
            hours(x, 24);
            due("a DAY with ICE", x.water(0), 0);
            hours(x, 24);
            due("a DAY without", x.water(0), 24 * 600);
            hours(x, 24);
            due("another with ICE", x.water(0), 24 * 600);
            hours(x, 24);
            due("a DAY not told", x.water(0), 24 * 600);
        });
        edge("to each other one what the one above let go in the hour before", () -> {
            MillRow x = new MillRow();
            tell(x, 1, BASE + "pond 500;gate 7;");
            tell(x, 3, BASE + "pond 500;gate 5;");
            tell(x, 5, BASE + "pond 500;");
            x.day(0, 100, false);
            hours(x, 1);
            due("the first told", x.told(1, 13), 53);
            due("the next not yet", x.told(3, 13), 0);
            hours(x, 1);
            due("the next", x.told(3, 13), 2);
            due("the last not yet", x.told(5, 13), 0);
            hours(x, 1);
            due("the last", x.told(5, 13), 5);
            tell(x, 0, BASE + "pond 500;gate 1;");
            hours(x, 1);
            due("a new first", x.told(0, 13), 59);
            due("on the way from it", x.told(0, 15), 1);
            due("the old first has none of the brook", x.told(1, 13), 53 + 53 + 53 - 7);
        });
        edge("Mill by mill in order of numbers, of those told", () -> {
            MillRow x = new MillRow();
            tell(x, 4, BASE + "pond 500;gate 4;");
            tell(x, 2, BASE + "pond 500;gate 2;");
            x.day(0, 100, false);
            hours(x, 3);
            due("first by number", x.told(2, 13), 180 - 6);
            due("last by number", x.told(4, 13), 0);
            due("GONE from the last", x.water(3), 4);
        });
    }

    private static void ponds() {
        promise(17);
        edge("what is above ROOM goes on at once (OVER)", () -> {
            int[] rooms = {599, 600, 601, 1, 9_999};
            for (int room : rooms) {
                MillRow x = brook(1000, BASE + "pond " + room + ";", BASE + "pond 9999;");
                hours(x, 1);
                due("POND of " + room, x.told(0, 13), Math.min(600, room));
                due("OVER of " + room, x.told(0, 15), Math.max(0, 600 - room));
                hours(x, 1);
                due("OVER comes to the next", x.told(1, 13), Math.max(0, 600 - room));
            }
        });
        edge("what is above ROOM goes on at once (OVER)", () -> {
            MillRow x = brook(99_999, BASE + "pond 1;gate 1;", BASE + "pond 9999;gate 999;");
            hours(x, 1);
            due("OVER and through the GATE", x.told(0, 15), 59_999);
            hours(x, 1);
            due("a full POND less OPEN", x.told(1, 13), 9_000);
            due("GONE, OVER and through", x.water(3), 59_999 - 9_000);
            due("by what goes through alone", x.ground(1, 0), x.gives(1, 1665, 50, 60, 0));
        });
        edge("LEVEL: POND times 100 by ROOM (cut)", () -> {
            int[] rooms = {600, 601, 1200, 9_999, 700, 599};
            int[] levels = {100, 99, 50, 6, 85, 100};
            for (int i = 0; i < rooms.length; i++) {
                MillRow x = brook(1000, BASE + "pond " + rooms[i] + ";");
                due("LEVEL of none", x.told(0, 14), 0);
                hours(x, 1);
                due("LEVEL of " + rooms[i], x.told(0, 14), levels[i]);
            }
        });
    }

    private static void gates() {
        promise(17);
        edge("OPEN of the first \"gate\" that holds (none: 0", () -> {
            MillRow x = brook(1000, BASE + "pond 999;", UNDER + "gate 9 if hour>0;", SHORT);
            hours(x, 1);
            due("no gate told", x.told(0, 15), 0);
            MillRow y = brook(1000, BASE + "pond 9999;gate 9 if hour=1;gate 5 if hour<3;gate 7;gate 1;");
            int[] opens = {5, 9, 5, 7, 7};
            long gone = 0;
            for (int hour = 0; hour < opens.length; hour++) {
                hours(y, 1);
                gone += opens[hour];
                due("GONE behind hour " + hour, y.water(3), gone);
            }
            MillRow z = brook(1000, BASE + "pond 9999;gate 9 if hour=1;gate 5 if hour>3;");
            hours(z, 1);
            due("none that holds", z.water(3), 0);
        });
        edge("at most POND: it goes through and on", () -> {
            int[] opens = {0, 1, 599, 600, 601, 999};
            for (int open : opens) {
                MillRow x = brook(1000, BASE + "pond 9999;gate " + open + ";", BASE);
                hours(x, 1);
                due("through a GATE of " + open, x.told(0, 15), Math.min(600, open));
                due("POND behind a GATE of " + open, x.told(0, 13), 600 - Math.min(600, open));
            }
        });
        edge("by FLOW as 100 times that by 60 (cut; 99,999 at most), its PACE, HEAD 60", () -> {
            for (int open : new int[] {0, 1, 2, 3, 599, 600, 999}) {
                MillRow x = brook(2000, UNDER + "pond 9999;pace 33;gate " + open + ";");
                hours(x, 1);
                due("YIELD of what goes through " + open, x.ground(0, 0), x.gives(0, 100 * open / 60, 33, 60, 0));
            }
            MillRow y = brook(1000, UNDER + "pond 9999;pace 33;gate 999;");
            hours(y, 1);
            due("YIELD of what the POND has", y.ground(0, 0), 1000L * (1073 - 99) * 99 / 2880);
        });
    }

    /** In which of 24 hours a gate with this condition is open; on DAY 0 come 60 an hour, the POND has room for 1,200. */
    private static void holdsIn(String condition, String hours) {
        MillRow x = brook(100, BASE + "pond 9999;gate 1 if " + condition + ";");
        StringBuilder open = new StringBuilder();
        long gone = 0;
        for (int hour = 0; hour < 24; hour++) {
            x.hours(1);
            open.append(x.water(3) > gone ? 'x' : '.');
            gone = x.water(3);
        }
        if (!open.toString().equals(hours)) {
            due("hours of " + condition + ": " + open + ", due are " + hours + " and the first that differs", 1, 0);
        }
    }

    private static void gateWords() {
        promise(17);
        String all = "x".repeat(24);
        String none = ".".repeat(24);
        edge("hour 0 to 23, level, flow, day", () -> {
            holdsIn("hour=0", "x" + ".".repeat(23));
            holdsIn("hour<1", "x" + ".".repeat(23));
            holdsIn("hour<0", none);
            holdsIn("hour>0", "." + "x".repeat(23));
            holdsIn("hour=23", ".".repeat(23) + "x");
            holdsIn("hour>22", ".".repeat(23) + "x");
            holdsIn("hour>23", none);
            holdsIn("hour=24", none);
            holdsIn("hour<24", all);
            holdsIn("hour<9999", all);
        });
        edge("hour 0 to 23, level, flow, day", () -> {
            holdsIn("flow=100", all);
            holdsIn("flow<100", none);
            holdsIn("flow<101", all);
            holdsIn("flow>100", none);
            holdsIn("flow>99", all);
            holdsIn("day=0", all);
            holdsIn("day<1", all);
            holdsIn("day>0", none);
            holdsIn("below=0", all);
            holdsIn("below>0", none);
        });
        edge("\"not\" ONE | \"(\" ANY \")\" | WORD", () -> {
            holdsIn("not hour<2", ".." + "x".repeat(22));
            holdsIn("not not hour<2", "xx" + ".".repeat(22));
            holdsIn("not hour>1 and hour>0", "." + "x" + ".".repeat(22));
            holdsIn("not (hour>1 and hour>0)", "xx" + ".".repeat(22));
            holdsIn("hour=1 or hour=2 and hour=3", ".x" + ".".repeat(22));
            holdsIn("(hour=1 or hour=2) and hour=2", "..x" + ".".repeat(21));
            holdsIn("hour=2 and hour=3 or hour=1", ".x" + ".".repeat(22));
            holdsIn("hour=0 or hour=5 or hour=9 or hour=23", "x....x...x" + ".".repeat(13) + "x");
            holdsIn("hour>2 and hour<9 and not hour=5", "...xx.xxx" + ".".repeat(15));
        });
        edge("LEVEL: POND times 100 by ROOM (cut)", () -> {
            for (int room : new int[] {119, 120, 121, 60, 59}) {
                int level = Math.min(room, 60) * 100 / room;
                MillRow x = brook(100, BASE + "pond " + room + ";gate 7 if level=" + level + ";", BASE);
                hours(x, 1);
                due("asked with what came, without OVER, ROOM " + room, x.told(0, 15), Math.max(0, 60 - room) + 7);
            }
        });
    }

    private static void below() {
        promise(17);
        edge("below: what the LEVEL of the next mill's POND was behind the hour before, 0 for the last", () -> {
            MillRow x = brook(100, BASE + "pond 9999;gate 50 if below=0;gate 7 if below=50;gate 1;", BASE + "pond 100;");
            int[] opens = {50, 50, 7, 1};
            int[] levels = {0, 50, 100, 100};
            for (int hour = 0; hour < 4; hour++) {
                hours(x, 1);
                due("through in hour " + hour, x.told(0, 15), opens[hour]);
                due("LEVEL of the next behind it", x.told(1, 14), levels[hour]);
            }
        });
        edge("below: what the LEVEL of the next mill's POND was behind the hour before, 0 for the last", () -> {
            MillRow x = new MillRow();
            tell(x, 0, BASE + "pond 9999;gate 60;");
            tell(x, 2, BASE + "pond 9999;gate 9 if below>0;gate 3;");
            tell(x, 5, BASE + "pond 30;gate 1 if below=0;gate 2;");
            x.day(0, 100, false);
            hours(x, 3);
            due("nothing below as yet", x.told(2, 15), 3);
            due("LEVEL of the last", x.told(5, 14), 6);
            hours(x, 1);
            due("something below, by the next told", x.told(2, 15), 9);
            due("below 0 for the last", x.water(3), 2);
        });
        edge("BELOW: how much the next one's LEVEL (likewise) is above the NAIL of the mill that grinds", () -> {
            for (int nail : new int[] {0, 49, 50, 51, 100}) {
                MillRow x = brook(1000, BASE + "pond 9999;gate 600;nail " + nail + ";", BASE + "pond 1200;nail 0;");
                hours(x, 2);
                due("LEVEL of the next", x.told(1, 14), 50);
                long before = x.ground(0, 0);
                due("nothing BELOW as yet", before, 2 * x.gives(0, 1000, 50, 60, 0));
                hours(x, 1);
                due("YIELD by NAIL " + nail, x.ground(0, 0) - before, x.gives(0, 1000, 50, 60, Math.max(0, 50 - nail)));
                due("WADED by NAIL " + nail, x.ground(0, 2), nail < 50 ? 1 : 0);
            }
        });
        edge("BELOW: how much the next one's LEVEL (likewise) is above the NAIL of the mill that grinds", () -> {
            MillRow x = brook(99_999, BASE + "pond 9999;gate 999;nail 0;", BASE + "pond 1;");
            hours(x, 2);
            long before = x.ground(0, 0);
            hours(x, 1);
            due("as much as can be BELOW", x.ground(0, 0) - before, x.gives(0, 1665, 50, 60, 100));
            due("nothing BELOW the last", x.ground(1, 2), 0);
        });
    }

    private static void wading() {
        promise(20);
        edge("WADED: water goes through the GATE and something is BELOW", () -> {
            int[][] cases = {{1, 0, 1}, {1, 100, 0}, {0, 0, 0}, {0, 100, 0}};
            for (int[] c : cases) {
                MillRow x = brook(1000, BASE + "pond 100;gate " + c[0] + ";nail " + c[1] + ";", BASE + "pond 100;");
                hours(x, 2);
                due("the next is full", x.told(1, 14), 100);
                hours(x, 1);
                due("WADED by GATE " + c[0] + " and NAIL " + c[1], x.ground(0, 2), c[2]);
            }
        });
        edge("WADED: water goes through the GATE and something is BELOW", () -> {
            MillRow x = brook(10, BASE + "gate 6;nail 5;", BASE + "pond 100;");
            hours(x, 24);
            due("hours till LEVEL is above the NAIL", x.ground(0, 2), 22);
            hours(x, 24);
            due("no water through", x.ground(0, 2), 22);
            due("water through as long as it came", x.told(1, 13), 100);
        });
    }

    private static void gone() {
        promise(21);
        edge("what goes on from the last is GONE", () -> {
            MillRow x = brook(1000, BASE + "pond 100;gate 50;");
            hours(x, 1);
            due("GONE at once", x.water(3), 550);
            due("nothing on the way", x.water(2), 0);
            tell(x, 1, BASE + "pond 100;gate 50;");
            hours(x, 1);
            due("not GONE as there is another", x.water(3), 550);
            due("on the way", x.water(2), 600);
        });
        edge("All ADDS UP: what came is in PONDS, on the way or GONE", () -> {
            MillRow x = brook(777, BASE + "pond 77;gate 11 if hour>3;", SHORT + "gate 13;pond 40;", UNDER + "pond 5;", BASE + "pond 9999;gate 1;");
            x.day(1, 99_999, false);
            x.day(2, 5, true);
            for (int call = 0; call < 40; call++) {
                hours(x, 1 + call % 5);
                if (call % 7 == 6) {
                    tell(x, call % 6, BASE + "pond " + (9 + call) + ";gate 3;");
                }
                due("what came", x.water(0), x.water(1) + x.water(2) + x.water(3));
            }
        });
    }

    private static void flood() {
        promise(18);
        edge("NONE, doing nothing but REFUSED: no such DAY.", () -> {
            MillRow x = with(BASE);
            MillRow y = with(BASE);
            for (int day : new int[] {-1, 40, Integer.MIN_VALUE, Integer.MAX_VALUE}) {
                refused(x, 0, NONE, "flood of " + day, () -> x.flood(day));
            }
            for (int day = 0; day < 40; day++) {
                x.day(day, 5, false);
                y.day(day, 5, false);
                due("nothing is DRAWN by a refused call", x.flood(day), y.flood(day));
            }
        });
        edge("A DAY's FLOW is DRAWN: what it is now.", () -> {
            MillRow x = new MillRow();
            x.seed(17);
            x.day(0, 3, true);
            due("ten times", x.flood(0), 30);
            due("FLOW", x.flow(0), 30);
            x.seed(17);
            due("ten times again", x.flood(0), 300);
            due("the FLOW of the next", x.flow(1), 0);
            x.seed(17);
            due("of none none", x.flood(39), 0);
            x.day(39, 7, false);
            x.seed(17);
            due("of the last DAY", x.flood(39), 70);
        });
        edge("ICE or not", () -> {
            MillRow x = with(BASE);
            x.day(0, 3, true);
            x.seed(17);
            x.flood(0);
            hours(x, 1);
            due("ICE stays", x.water(0), 0);
        });
        edge("thrice; else once (99,999 at most)", () -> {
            int[][] cases = {{17, 9_999, 99_990}, {17, 10_000, 99_999}, {17, 99_999, 99_999}, {49, 33_333, 99_999}, {49, 33_334, 99_999}, {49, 33_332, 99_996},
                {49, 99_999, 99_999}, {15, 99_999, 99_999}, {12, 99_998, 99_998}, {12, 0, 0}, {17, 0, 0}};
            for (int[] c : cases) {
                MillRow x = new MillRow();
                x.day(5, c[1], false);
                x.seed(c[0]);
                due("flood of " + c[1] + " by " + c[0], x.flood(5), c[2]);
            }
        });
    }

    private static void drawn() {
        promise(18);
        edge("below 5: its FLOW counts 10 times; else below 15: thrice; else once", () -> {
            int[][] seeds = {{17, 115, 239, 337}, {121, 147, 245, 343}, {49, 173, 271, 369}, {84, 110, 211, 309}, {12, 237, 335, 361}, {89, 213, 311, 409}};
            int[] drawn = {0, 4, 5, 14, 15, 99};
            int[] times = {10, 10, 3, 3, 1, 1};
            for (int i = 0; i < seeds.length; i++) {
                for (int seed : seeds[i]) {
                    MillRow x = new MillRow();
                    x.day(0, 100, false);
                    x.seed(seed);
                    due("DRAWN " + drawn[i] + " of " + seed, x.flood(0), 100 * times[i]);
                }
            }
        });
        edge("z is 1 at first", () -> {
            int[] drawn = {74, 53, 96, 70, 34, 95, 30, 2, 89, 46, 23, 2, 52, 0, 34, 12, 90, 95, 32, 65};
            MillRow x = new MillRow();
            for (int i = 0; i < drawn.length; i++) {
                x.day(i, 7, false);
                due("the " + i + "th", x.flood(i), drawn[i] < 5 ? 70 : drawn[i] < 15 ? 21 : 7);
            }
        });
        edge("(64 bits, wrapping), z shifted to the right by 33 (0 comes in) modulo 100", () -> {
            BigInteger z = BigInteger.ONE;
            for (int run = 0; run < 4; run++) {
                MillRow x = new MillRow();
                x.seed(run == 0 ? 1 : 999_999_999 - run);
                z = BigInteger.valueOf(run == 0 ? 1 : 999_999_999 - run);
                for (int i = 0; i < 160; i++) {
                    z = z.multiply(new BigInteger("6364136223846793005")).add(new BigInteger("1442695040888963407")).mod(BigInteger.TWO.pow(64));
                    int drawn = z.shiftRight(33).mod(BigInteger.valueOf(100)).intValue();
                    x.day(i % 40, 9, false);
                    due("DRAWN " + drawn, x.flood(i % 40), drawn < 5 ? 90 : drawn < 15 ? 27 : 9);
                }
            }
        });
    }

    private static void seed() {
        promise(19);
        edge("z is that (0 to 999,999,999): true", () -> {
            MillRow x = new MillRow();
            range("seed", 0, 999_999_999, 0, v -> x.seed(v) ? 1 : 0);
            due("REFUSED", x.count(3), 4);
            x.seed(0);
            x.day(0, 7, false);
            due("DRAWN 7 of 0", x.flood(0), 21);
            x.seed(999_999_999);
            x.day(0, 7, false);
            due("DRAWN 90 of 999,999,999", x.flood(0), 7);
        });
        edge("false, doing nothing but REFUSED: not as told.", () -> {
            MillRow x = with(BASE);
            x.seed(17);
            refused(x, 0, "-1", () -> x.seed(-1));
            refused(x, 0, "1,000,000,000", () -> x.seed(1_000_000_000));
            x.day(0, 7, false);
            due("z stays", x.flood(0), 70);
        });
    }

    private static void ground() {
        promise(20);
        edge("NONE: none such.", () -> {
            MillRow x = new MillRow();
            tell(x, 1, SHORT);
            tell(x, 4, UNDER);
            mills("ground", NONE, mill -> x.ground(mill, 0), 1, 4);
            range("ground", 0, 2, what -> x.ground(1, what));
            range("ground", 0, 2, what -> x.ground(4, what));
            due("asking is no refusal", x.count(3), 0);
        });
        edge("hours in which it ground (1), hours in which it waded (2)", () -> {
            MillRow x = brook(1000, BASE + "pond 9999;gate 600 if hour=1 or hour=5;");
            hours(x, 1);
            due("none ground", x.ground(0, 0), 0);
            due("no hours", x.ground(0, 1), 0);
            hours(x, 1);
            due("ground", x.ground(0, 0), x.gives(0, 1000, 50, 60, 0));
            due("an hour", x.ground(0, 1), 1);
            hours(x, 94);
            due("hours of four DAYS", x.ground(0, 1), 8);
            due("ground", x.ground(0, 0), 8 * x.gives(0, 1000, 50, 60, 0));
        });
    }

    private static void groundAtLeast() {
        promise(20);
        edge("hours in which it ground (1)", () -> {
            MillRow x = brook(5, UNDER + "pond 9999;pace 1;gate 1;", "wheel under 7 wide 2 buckets 4 deep 5;pace 1;gate 1;");
            hours(x, 4);
            due("one pint-foot an hour", x.ground(0, 0), 4);
            due("hours of one pint-foot", x.ground(0, 1), 4);
            due("not one pint-foot", x.ground(1, 0), 0);
            due("hours of none", x.ground(1, 1), 0);
        });
    }

    private static void water() {
        promise(21);
        edge("0 what came, 1 what is in PONDS, 2 on the way, 3 GONE, 4 hours gone by. NONE for others.", () -> {
            MillRow x = brook(1000, BASE + "pond 500;gate 300;", BASE + "pond 100;gate 50;");
            range("water", 0, 4, x::water);
            hours(x, 2);
            long[] waters = {1200, 200 + 50, 600, 350, 2};
            for (int what = 0; what < 5; what++) {
                due("water " + what, x.water(what), waters[what]);
            }
            due("asking is no refusal", x.count(3), 0);
        });
        edge("0 what came, 1 what is in PONDS, 2 on the way, 3 GONE, 4 hours gone by. NONE for others.", () -> {
            MillRow x = with(BASE + "pond 9999;");
            for (int day = 0; day < 40; day++) {
                x.day(day, 99_999, false);
            }
            hours(x, 960);
            due("as much as can come", x.water(0), 960L * 59_999);
            due("as much as can be GONE", x.water(3), 960L * 59_999 - 9_999);
            due("a full POND", x.water(1), 9_999);
            due("all hours", x.water(4), 960);
        });
    }

    private static void nightArguments() {
        promise(33);
        edge("NIGHT of so many hours (0 to 23), OPEN 1 to 999", () -> {
            MillRow x = with(BASE, UNDER);
            range("NIGHT by hours", 0, 23, hours -> x.night(0, 1000, hours, 50, 0));
            range("NIGHT by OPEN", 1, 999, open -> x.night(0, 1000, 5, open, 0));
            range("NIGHT by FLOW", 0, 99_999, flow -> x.night(0, flow, 5, 50, 0));
            range("NIGHT", 0, 2, what -> x.night(0, 1000, 5, 50, what));
            mills("NIGHT", NONE, mill -> x.night(mill, 1000, 5, 50, 0), 0, 1);
            due("asking is no refusal", x.count(3), 0);
        });
    }

    private static void night() {
        promise(33);
        edge("then each hour it comes likewise and OPEN goes through the GATE, as long as there's all of it, to hour 24", () -> {
            MillRow x = with(BASE + "pond 9999;");
            due("all 24 hours", x.night(0, 1000, 0, 600, 0), 24);
            due("one more than comes", x.night(0, 1000, 0, 601, 0), 0);
            due("the last hour alone", x.night(0, 1000, 23, 999, 0), 1);
            due("as much as there is", x.night(0, 5, 23, 72, 0), 1);
            due("not all of it", x.night(0, 5, 23, 73, 0), 0);
            due("till there isn't all of it", x.night(0, 1000, 2, 800, 0), 6);
            due("one more", x.night(0, 1000, 4, 800, 0), 12);
            due("nothing comes", x.night(0, 0, 23, 1, 0), 0);
            due("nothing comes, as it is cut", x.night(0, 1, 23, 1, 0), 0);
            due("just something comes", x.night(0, 2, 0, 1, 0), 24);
        });
        edge("for so many hours what comes (60 times FLOW by 100, cut) stays, as far as there's ROOM", () -> {
            MillRow x = with(BASE + "pond 100;", BASE + "pond 1;", BASE + "pond 9999;");
            due("a full POND", x.night(0, 10, 23, 100, 0), 1);
            due("no more than ROOM", x.night(0, 99_999, 23, 101, 0), 0);
            due("ROOM each hour", x.night(0, 99_999, 0, 100, 0), 24);
            due("ROOM and what comes", x.night(0, 20, 23, 89, 2), 11);
            due("what comes to a full POND does not stay", x.night(0, 20, 22, 50, 2), 100 - 50 + 12 - 50);
            due("the least ROOM", x.night(1, 99_999, 12, 1, 0), 12);
            due("the least ROOM", x.night(1, 99_999, 12, 2, 0), 0);
            due("nothing left of all", x.night(2, 1000, 0, 600, 2), 0);
            due("left of much", x.night(2, 1000, 10, 600, 2), 6000);
        });
        edge("a POND of its ROOM, empty", () -> {
            MillRow x = brook(1000, BASE + "pond 9999;");
            hours(x, 10);
            due("what the POND has is for no NIGHT", x.night(0, 0, 5, 1, 0), 0);
            due("nothing left of nothing", x.night(0, 0, 5, 1, 2), 0);
            x.night(0, 1000, 5, 600, 0);
            due("the POND stays", x.told(0, 13), 6000);
            due("the hours stay", x.water(4), 10);
        });
        edge("their YIELD together (1; by FLOW as 100 times OPEN by 60, cut, its PACE, HEAD 60, nothing BELOW)", () -> {
            MillRow x = with(BASE + "pond 9999;pace 7;", UNDER + "pond 9999;pace 77;");
            for (int open : new int[] {1, 2, 7, 600, 999}) {
                for (int mill = 0; mill < 2; mill++) {
                    long one = x.gives(mill, 100 * open / 60, mill == 0 ? 7 : 77, 60, 0);
                    due("YIELD by OPEN " + open, x.night(mill, 99_999, 3, open, 1), 21 * one);
                    due("YIELD of one hour", x.night(mill, 99_999, 23, open, 1), one);
                }
            }
            due("YIELD of no hours", x.night(0, 0, 3, 600, 1), 0);
        });
    }

    private static void image() {
        promise(43);
        edge("An IMAGE: its number. NONE, doing nothing but REFUSED: 3 are there.", () -> {
            MillRow x = with(BASE);
            for (int i = 0; i < 3; i++) {
                due("its number", x.image(), i);
                due("IMAGES", x.count(2), i + 1);
            }
            refused(x, 1, NONE, "the 4th", x::image);
            refused(x, 1, NONE, "the 4th again", x::image);
            due("the last is there", x.restore(2), true);
            refused(x, 1, NONE, "no room behind restore", x::image);
        });
        edge("NONE, doing nothing but REFUSED: 3 are there.", () -> {
            MillRow x = brook(1000, BASE);
            for (int i = 0; i < 3; i++) {
                x.image();
                hours(x, 1);
            }
            refused(x, 1, NONE, "the 4th", x::image);
            for (int i = 2; i >= 0; i--) {
                due("restore " + i, x.restore(i), true);
                due("hours of IMAGE " + i, x.water(4), i);
                due("what came by IMAGE " + i, x.water(0), 600 * i);
            }
        });
        edge("IMAGES, up to 3", () -> {
            MillRow x = new MillRow();
            due("of no MILLS", x.image(), 0);
            x.day(0, 9, false);
            due("the next", x.image(), 1);
            due("restored", x.restore(0), true);
            due("FLOW", x.flow(0), 0);
            tell(x, 0, BASE);
            due("the first again", x.image(), 0);
        });
    }

    private static void restore() {
        promise(44);
        edge("true; false, doing nothing but REFUSED: none such.", () -> {
            MillRow x = brook(1000, BASE);
            refused(x, 0, "none as yet", () -> x.restore(0));
            x.image();
            hours(x, 1);
            x.image();
            for (int image : new int[] {-1, 2, 3, Integer.MIN_VALUE, Integer.MAX_VALUE}) {
                refused(x, 0, "restore " + image, () -> x.restore(image));
            }
            due("the latest", x.restore(1), true);
            due("hours", x.water(4), 1);
            due("the first", x.restore(0), true);
            due("hours", x.water(4), 0);
            due("the latest again", x.restore(1), true);
            due("hours", x.water(4), 1);
            x.image();
            due("the third", x.restore(2), true);
            refused(x, 0, "restore 3", () -> x.restore(3));
        });
        edge("doing nothing but REFUSED: none such.", () -> {
            MillRow x = brook(1000, BASE);
            x.image();
            tell(x, 0, "no text");
            due("behind a FAULT", x.restore(0), true);
            tell(x, 5, SHORT);
            refused(x, 0, "behind a new MILL", () -> x.restore(0));
        });
        edge("All is as in an IMAGE", () -> {
            MillRow x = brook(1000, BASE);
            x.image();
            for (int i = 0; i < 5; i++) {
                hours(x, 3);
                due("restored as often as asked", x.restore(0), true);
                due("hours", x.water(4), 0);
                due("came", x.water(0), 0);
            }
            due("IMAGES stay", x.count(2), 1);
        });
    }

    private static long[] state(MillRow x) {
        long[] all = new long[5 + 5 * 2 + 3];
        for (int what = 0; what < 5; what++) {
            all[what] = x.water(what);
        }
        for (int mill = 0; mill < 2; mill++) {
            all[5 + 5 * mill] = x.told(mill, 13);
            all[6 + 5 * mill] = x.told(mill, 15);
            for (int what = 0; what < 3; what++) {
                all[7 + 5 * mill + what] = x.ground(mill, what);
            }
        }
        all[15] = x.flow(0);
        all[16] = x.flow(1);
        all[17] = x.flow(39);
        return all;
    }

    private static void restored() {
        promise(44);
        edge("IMAGES, up to 3: PONDS, what is on the way, what came, was ground (with its hours), is GONE, hours gone by, DAYS, z.", () -> {
            MillRow x = brook(1000, BASE + "pond 500;gate 300;nail 0;", BASE + "pond 500;gate 300;");
            hours(x, 3);
            x.day(39, 5, true);
            long[] was = state(x);
            for (long v : new long[] {was[7], was[8], was[9], was[12], was[3]}) {
                due("there is some of all", v > 0, true);
            }
            x.image();
            hours(x, 90);
            x.day(0, 7, true);
            x.day(1, 7, false);
            x.day(39, 7, false);
            x.restore(0);
            long[] is = state(x);
            for (int i = 0; i < was.length; i++) {
                due("state " + i, is[i], was[i]);
            }
            hours(x, 1);
            due("no ICE as in the IMAGE", x.water(0), was[0] + 600);
        });
        edge("hours gone by, DAYS, z.", () -> {
            MillRow x = with(BASE);
            x.day(0, 1000, true);
            x.day(1, 1, false);
            x.day(2, 1, false);
            x.seed(17);
            x.image();
            x.day(0, 1000, false);
            due("ten times", x.flood(1), 10);
            due("once", x.flood(2), 1);
            x.restore(0);
            due("DAYS", x.flow(1), 1);
            due("z", x.flood(1), 10);
            due("z", x.flood(2), 1);
            due("ten times now", x.flood(2), 10);
            hours(x, 1);
            due("ICE", x.water(0), 0);
        });
        edge("hours gone by, DAYS, z.", () -> {
            MillRow x = brook(1000, BASE);
            hours(x, 959);
            x.image();
            due("the last", x.hours(1), 960);
            due("no more", x.hours(1), NONE);
            x.restore(0);
            due("the last again", x.hours(1), 960);
            due("what is no part of an IMAGE stays", x.count(4), 1);
        });
    }
}
