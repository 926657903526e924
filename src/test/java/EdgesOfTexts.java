import java.util.function.Consumer;

/** Edges of promises 1 to 5: a new object, the tape, the mills' texts and where they are at fault. */
final class EdgesOfTexts extends Edges {
    private static final int SHORTS = SHORT.length();

    static void all() {
        newObject();
        feed();
        numbers();
        tokens();
        grammar();
        without();
        statements();
        nested();
        mill();
        millInPlace();
        fault();
        told();
        toldNumbers();
    }

    private static void newObject() {
        promise(1);
        edge("`NONE = -1`: There is none.", () -> {
            due("NONE", MillRow.NONE, -1);
            due("told of a new object", new MillRow().told(0, 0), -1);
        });
        edge("No MILLS.", () -> {
            MillRow x = new MillRow();
            due("count(0)", x.count(0), 0);
            for (int what = 0; what <= 16; what++) {
                int asked = what;
                mills("told " + what, NONE, mill -> x.told(mill, asked));
            }
        });
        edge("No MILLS.", () -> {
            MillRow x = new MillRow();
            x.day(0, 1000, false);
            mills("bucket", NONE, mill -> x.bucket(mill, 6000, 50, 0));
            mills("holds", NONE, mill -> x.holds(mill, 50, 0));
            mills("work", NONE, mill -> x.work(mill, 6000, 50, 60));
            mills("gives", NONE, mill -> x.gives(mill, 6000, 50, 60, 0));
            mills("best", NONE, mill -> x.best(mill, 6000, 60, 0, 1));
            mills("parts", NONE, mill -> x.parts(mill, 6000, 12));
            mills("grid", NONE, mill -> x.grid(mill, 2, 3, 1001, 0));
            mills("model", NONE, mill -> x.model(mill, 2, 6000, 0));
            mills("losses", NONE, mill -> x.losses(mill, 6000, 50, 0));
            mills("night", NONE, mill -> x.night(mill, 1000, 5, 5, 0));
            mills("buy", NONE, mill -> x.buy(mill, 1000, 5, 0));
            mills("balance", -2_000_000_000, mill -> x.balance(mill, 0, 1, 1));
            due("ruin", x.ruin(20, 240, 1300), 0);
        });
        edge("No MILLS.", () -> {
            MillRow x = new MillRow();
            x.day(0, 1000, false);
            mills("ground", NONE, mill -> x.ground(mill, 0));
            mills("raised", NONE, x::raised);
            mills("sleep", NONE, mill -> x.sleep(mill, 0));
            mills("comes", NONE, x::comes);
            mills("served", NONE, mill -> x.served(mill, 5));
            mills("dry", NONE, mill -> x.dry(mill, 1, NONE));
            due("shift", x.shift(1, 1, 0, 0), NONE);
            due("rests", x.rests(1, 1, NONE), NONE);
            due("all", x.all(1, 1, 0), NONE);
            due("versus", x.versus(0, 1, 6000, 5), NONE);
        });
        edge("No MILLS.", () -> {
            MillRow x = new MillRow();
            for (int what = 0; what <= 9; what++) {
                due("count(" + what + ")", x.count(what), 0);
            }
            for (int what = 0; what <= 4; what++) {
                due("water(" + what + ")", x.water(what), 0);
            }
        });
    }

    private static void feed() {
        promise(2);
        edge("Twenty bytes come behind those on the tape, of each number the highest first", () -> {
            for (int row = 0; row < 35; row += 34) {
                for (int place = 0; place < 20; place++) {
                    MillRow x = new MillRow();
                    byte[] b = new byte[20 * row + 20];
                    java.util.Arrays.fill(b, (byte) 32);
                    b[20 * row + place] = -1;
                    feed(x, b);
                    due("mill", x.mill(0, b.length), NONE);
                    due("the byte's place", x.fault(), 20 * row + place);
                }
            }
        });
        edge("how many there are", () -> {
            MillRow x = new MillRow();
            for (int i = 1; i <= 35; i++) {
                due("feed", x.feed(0, 0, 0, 0, 0), 20 * i);
                due("count(1)", x.count(1), 20 * i);
            }
            x.mill(0, 1);
            due("feed to an empty tape", x.feed(0, 0, 0, 0, 0), 20);
        });
        edge("NONE, doing nothing (not REFUSED): there would be more than 700.", () -> {
            MillRow x = new MillRow();
            for (int i = 1; i <= 34; i++) {
                x.feed(0x20202020, 0x20202020, 0x20202020, 0x20202020, 0x20202020);
            }
            due("just 700", x.feed(0x20202020, 0x20202020, 0x20202020, 0x20202020, 0x202020ff), 700);
            nothing(x, NONE, "feed beyond 700", () -> x.feed(1, 2, 3, 4, 5));
            due("more than there are", x.mill(0, 701), -2);
            due("mill", x.mill(0, 700), NONE);
            due("what was on the tape stays", x.fault(), 699);
        });
        edge("NONE, doing nothing (not REFUSED): there would be more than 700.", () -> {
            MillRow x = new MillRow();
            StringBuilder b = new StringBuilder(SHORT).append("gate 7 if hour<1");
            while (b.length() < 690) {
                b.append(" or day=1");
            }
            feed(x, b.append(" ".repeat(699 - b.length())).append(';').toString());
            x.feed(-1, -1, -1, -1, -1);
            due("a text of 700 bytes", x.mill(5, 700), 2);
        });
        edge("there would be more than 700", () -> {
            for (String sign : new String[] {";", "(", "=", "\u00ff"}) {
                MillRow x = new MillRow();
                due("700 tokens " + sign, tell(x, 0, sign.repeat(700)), NONE);
                due("the first", x.fault(), 0);
                due("699 tokens behind one", tell(x, 0, "wheel " + sign.repeat(694)), NONE);
                due("the second", x.fault(), 6);
            }
        });
    }

    /** In a text a number from the least to the most, and none that is less or more, told as this. */
    private static void number(String before, String behind, int least, int most, int what) {
        for (int v : new int[] {least, least + 1, most - 1, most}) {
            MillRow x = new MillRow();
            due(before + v + behind, tell(x, 0, before + v + behind) > 0, true);
            due("told behind " + before + v, x.told(0, what), v);
        }
        for (int v : new int[] {least - 1, most + 1, 9_999, 10_000, 99_999}) {
            if (v >= 0 && (v < least || v > most)) {
                faultAt(before + v + behind, before.length());
            }
        }
        faultAt(before + behind, before.length() + (behind.startsWith(" ") ? 1 : 0));
    }

    private static void faultAt(String text, int place) {
        MillRow x = new MillRow();
        due("mill of " + text, tell(x, 1, text), NONE);
        due("fault of " + text, x.fault(), place);
        due("a FAULT is REFUSED", x.count(5), 1);
    }

    private static void wellTold(String text, int statements) {
        MillRow x = new MillRow();
        due("mill of " + text, tell(x, 1, text), statements);
        due("fault of " + text, x.fault(), NONE);
    }

    private static void numbers() {
        promise(3);
        edge("SIZE 2 to 40 (feet)", () -> number("wheel over ", " wide 2 buckets 4 deep 5;", 2, 40, 1));
        edge("WIDE 1 to 20 (feet)", () -> number("wheel under 3 wide ", " buckets 4 deep 5;", 1, 20, 2));
        edge("MANY 4 to 80", () -> number("wheel over 3 wide 2 buckets ", " deep 5;", 4, 80, 3));
        edge("DEEP 1 to 24 (inches)", () -> number("wheel over 3 wide 2 buckets 4 deep ", ";", 1, 24, 4));
        edge("SLANT 0 to 9", () -> number("wheel over 3 wide 2 buckets 4 deep 5 slant ", ";", 0, 9, 5));
        edge("DEGREE 0 to 90", () -> number("wheel over 3 wide 2 buckets 4 deep 5 at ", ";", 0, 90, 6));
        edge("ROOM 1 to 9,999 (hundreds of pints)", () -> number(SHORT + "pond ", ";", 1, 9_999, 7));
        edge("NAIL 0 to 100", () -> number(SHORT + "nail ", ";", 0, 100, 8));
        edge("PACE 1 to 300 (tenths of turns a minute)", () -> number(SHORT + "pace ", ";", 1, 300, 9));
        edge("RUB 0 to 9,999 (pint-feet a turn)", () -> number(SHORT + "rub ", ";", 0, 9_999, 10));
        edge("OPEN 0 to 999 (hundreds of pints an hour)", () -> {
            for (int open : new int[] {0, 1, 998, 999}) {
                MillRow x = brook(1_665, BASE + "pond 9999;gate " + open + ";");
                hours(x, 1);
                due("through a gate of " + open, x.water(3), open);
            }
            faultAt(SHORT + "gate 1000;", SHORTS + 5);
            faultAt(SHORT + "gate 9999 if hour<1;", SHORTS + 5);
        });
        edge("NUMBER: 0 to 9,999.", () -> {
            for (int flow : new int[] {0, 1, 9_998, 9_999}) {
                MillRow x = brook(flow, BASE + "gate 7 if flow=" + flow + ";", UNDER);
                x.day(1, flow + 1, false);
                due("hours in which flow is " + flow, x.sleep(0, 0), 24);
                hours(x, 12);
                due("hours in which flow is " + flow, x.sleep(0, 0), 12);
            }
            faultAt(SHORT + "gate 7 if flow<10000;", SHORTS + 15);
        });
        edge("Each number of one to four digits.", () -> {
            for (String two : new String[] {"2", "02", "002", "0002"}) {
                MillRow x = with("wheel over " + two + " wide " + two + " buckets 4 deep " + two + " slant " + two + " at " + two
                        + ";pond " + two + ";nail " + two + ";pace " + two + ";rub " + two + ";gate " + two + " if hour<" + two + ";");
                for (int what : new int[] {1, 2, 4, 5, 6, 7, 8, 9, 10}) {
                    due("told " + what + " of " + two, x.told(0, what), 2);
                }
                due("hours of " + two, x.sleep(0, 0), 22);
            }
            wellTold(SHORT + "nail 0000;gate 0000 if hour<0000;", 3);
        });
        edge("Each number of one to four digits.", () -> {
            faultAt("wheel over 00002 wide 2 buckets 4 deep 5;", 11);
            faultAt("wheel over 3 wide 00002 buckets 4 deep 5;", 18);
            faultAt("wheel over 3 wide 2 buckets 00004 deep 5;", 28);
            faultAt("wheel over 3 wide 2 buckets 4 deep 00005;", 35);
            faultAt("wheel over 3 wide 2 buckets 4 deep 5 slant 00000;", 43);
            faultAt("wheel over 3 wide 2 buckets 4 deep 5 at 00000;", 40);
            for (String word : new String[] {"pond", "nail", "pace", "rub", "gate"}) {
                faultAt(SHORT + word + " 00001;", SHORTS + word.length() + 1);
                faultAt(SHORT + word + " 99999999999999999999;", SHORTS + word.length() + 1);
                faultAt(SHORT + word + " 4294967297;", SHORTS + word.length() + 1);
            }
            faultAt(SHORT + "gate 7 if hour=00000;", SHORTS + 15);
        });
    }

    private static boolean isBlank(int b) {
        return b == 32 || b == 10;
    }

    private static boolean isLetter(int b) {
        return b >= 97 && b <= 122;
    }

    private static boolean isDigit(int b) {
        return b >= 48 && b <= 57;
    }

    private static void eachByte(Consumer<Integer> test) {
        for (int b = 0; b < 256; b++) {
            test.accept(b);
        }
    }

    private static void tokens() {
        promise(3);
        edge("Tokens as long as they go: words of letters a to z, digits, signs", () -> {
            wellTold("wheel over3wide2buckets4deep5slant6at7;pond8;nail9;pace10;rub11;gate12;", 6);
            wellTold(SHORT + "gate5if(hour<3)and not(day=1)or level>2and below<1or flow=1;", 2);
            faultAt("wheelover 3 wide 2 buckets 4 deep 5;", 0);
            faultAt("wheel overt 3 wide 2 buckets 4 deep 5;", 6);
            faultAt(SHORT + "gate 5 if nothour<3;", SHORTS + 10);
            faultAt(SHORT + "gate 5 if hour<3and not day=1ornot day=2;", SHORTS + 29);
            faultAt("wheel over 4 0 wide 2 buckets 4 deep 5;", 13);
            faultAt("wh eel over 4 wide 2 buckets 4 deep 5;", 0);
        });
        edge("Tokens as long as they go: words of letters a to z, digits, signs", () -> eachByte(b -> {
            String text = "wheel" + (char) (int) b + "over 3 wide 2 buckets 4 deep 5;";
            if (isBlank(b)) {
                wellTold(text, 1);
            } else {
                faultAt(text, isLetter(b) ? 0 : 5);
            }
        }));
        edge("Tokens as long as they go: words of letters a to z, digits, signs", () -> eachByte(b -> {
            String text = "wheel over 4" + (char) (int) b + "wide 2 buckets 4 deep 5;";
            if (isBlank(b) || b == '0') {
                wellTold(text, 1);
            } else {
                faultAt(text, isDigit(b) ? 11 : 12);
            }
        }));
        edge("between them blanks (bytes 32 and 10)", () -> eachByte(b -> {
            if (isBlank(b)) {
                wellTold(SHORT + (char) (int) b, 1);
                wellTold((char) (int) b + SHORT, 1);
            } else {
                faultAt(SHORT + (char) (int) b, SHORTS);
                faultAt((char) (int) b + SHORT, 0);
            }
        }));
        edge("between them blanks (bytes 32 and 10)", () -> {
            String two = " \n";
            wellTold(two + "wheel" + two + "over" + two + "3" + two + "wide" + two + "2" + two + "buckets" + two + "4" + two + "deep" + two
                    + "5" + two + ";" + two + "gate" + two + "5" + two + "if" + two + "(" + two + "not" + two + "hour" + two + "<" + two + "5"
                    + two + ")" + two + ";" + two, 2);
            wellTold(" ".repeat(660) + SHORT, 1);
        });
        edge("WORD (\"<\" | \">\" | \"=\") NUMBER", () -> eachByte(b -> {
            String text = SHORT + "gate 5 if hour" + (char) (int) b + "3;";
            if (b == '<' || b == '>' || b == '=') {
                wellTold(text, 2);
            } else {
                faultAt(text, isLetter(b) ? SHORTS + 10 : isBlank(b) ? SHORTS + 15 : SHORTS + 14);
            }
        }));
        edge("WORD (\"<\" | \">\" | \"=\") NUMBER", () -> {
            faultAt(SHORT + "gate 5 if hour<=3;", SHORTS + 15);
            faultAt(SHORT + "gate 5 if hour<<3;", SHORTS + 15);
            faultAt(SHORT + "gate 5 if hour<;", SHORTS + 15);
            faultAt(SHORT + "gate 5 if <3;", SHORTS + 10);
            faultAt(SHORT + "gate 5 if 3<hour;", SHORTS + 10);
            faultAt(SHORT + "gate 5 if hour<day;", SHORTS + 15);
        });
    }

    private static void grammar() {
        promise(3);
        edge("\"wheel\" (\"over\" | \"under\") SIZE \"wide\" WIDE \"buckets\" MANY \"deep\" DEEP [\"slant\" SLANT] [\"at\" DEGREE] \";\"", () -> {
            wellTold("wheel under 3 wide 2 buckets 4 deep 5;", 1);
            wellTold("wheel over 3 wide 2 buckets 4 deep 5 slant 1;", 1);
            wellTold("wheel over 3 wide 2 buckets 4 deep 5 at 1;", 1);
            wellTold("wheel under 3 wide 2 buckets 4 deep 5 slant 1 at 1;", 1);
            faultAt("wheel over 3 wide 2 buckets 4 deep 5 at 1 slant 1;", 42);
            faultAt("wheel over 3 wide 2 buckets 4 deep 5 at 1 at 1;", 42);
            faultAt("wheel over 3 wide 2 buckets 4 deep 5 slant 1 slant 1;", 45);
            faultAt("wheel over under 3 wide 2 buckets 4 deep 5;", 11);
            faultAt("wheel 3 wide 2 buckets 4 deep 5;", 6);
            faultAt("wheel over 3 wide 2 buckets 4;", 29);
            faultAt("wheel over 3 wide 2 buckets 4 deep 5 pond 1;", 37);
            faultAt("over 3 wide 2 buckets 4 deep 5;", 0);
            faultAt("pond 5;" + SHORT, 0);
        });
        edge("{\"pond\" ROOM \";\" | \"nail\" NAIL \";\" | \"pace\" PACE \";\" | \"rub\" RUB \";\" | \"gate\" OPEN [\"if\" ANY] \";\"}", () -> {
            wellTold(SHORT, 1);
            for (String one : new String[] {"pond 1;", "nail 1;", "pace 1;", "rub 1;", "gate 1;", "gate 1 if day=1;"}) {
                wellTold(SHORT + one, 2);
                wellTold(SHORT + one + "rub 1;" + one, 4);
                faultAt(SHORT + one.replace(";", " 1;"), SHORTS + one.length());
                faultAt(SHORT + one.replace(";", ""), SHORTS + one.length() - 1);
            }
            for (String one : new String[] {";", "wheel over 3 wide 2 buckets 4 deep 5;", "if hour<1;", "slant 1;", "at 1;", "1;", "ponds 1;"}) {
                faultAt(SHORT + one, SHORTS);
            }
            faultAt(SHORT + "pond 1 if day=1;", SHORTS + 7);
        });
        edge("ANY: ALL {\"or\" ALL}. ALL: ONE {\"and\" ONE}. ONE: \"not\" ONE | \"(\" ANY \")\"", () -> {
            faultAt(SHORT + "gate 5 if;", SHORTS + 9);
            faultAt(SHORT + "gate 5 if ();", SHORTS + 11);
            faultAt(SHORT + "gate 5 if day=1 or;", SHORTS + 18);
            faultAt(SHORT + "gate 5 if day=1 and;", SHORTS + 19);
            faultAt(SHORT + "gate 5 if not;", SHORTS + 13);
            faultAt(SHORT + "gate 5 if or day=1;", SHORTS + 10);
            faultAt(SHORT + "gate 5 if and day=1;", SHORTS + 10);
            faultAt(SHORT + "gate 5 if day=1 day=2;", SHORTS + 16);
            faultAt(SHORT + "gate 5 if (day=1;", SHORTS + 16);
            faultAt(SHORT + "gate 5 if day=1);", SHORTS + 15);
            faultAt(SHORT + "gate 5 if day=1 not day=2;", SHORTS + 16);
            faultAt(SHORT + "gate 5 if day=1 or or day=2;", SHORTS + 19);
        });
        edge("WORD: hour, level, flow, day, below.", () -> {
            for (String word : new String[] {"hour", "level", "flow", "day", "below"}) {
                wellTold(SHORT + "gate 5 if " + word + "<1;", 2);
                faultAt(SHORT + "gate 5 if " + word + "s<1;", SHORTS + 10);
                faultAt(SHORT + "gate 5 if " + word.substring(1) + "<1;", SHORTS + 10);
            }
            faultAt(SHORT + "gate 5 if pond<1;", SHORTS + 10);
        });
    }

    private static void without() {
        promise(3);
        edge("Without: SLANT 4, DEGREE 10, ROOM 100, NAIL 100, PACE 50, RUB 0", () -> {
            MillRow x = with(SHORT, UNDER);
            tell(x, 1, BASE + "pond 7;nail 7;pace 7;rub 7;gate 7;");
            tell(x, 0, SHORT);
            tell(x, 3, "wheel over 3 wide 2 buckets 4 deep 5 slant 7 at 7;pond 7;nail 7;pace 7;rub 7;gate 7;gate 7 if hour<7;x");
            tell(x, 1, UNDER);
            tell(x, 0, SHORT);
            int[] without = {4, 10, 100, 100, 50, 0, 0};
            for (int what = 5; what <= 11; what++) {
                due("told " + what, x.told(0, what), without[what - 5]);
                due("told " + what + " of another in its place", x.told(1, what), without[what - 5]);
            }
        });
        edge("told again the last holds (but \"gate\": see below)", () -> {
            MillRow x = with(SHORT + "pond 5;nail 6;pace 7;rub 8;pond 9999;nail 100;pace 300;rub 9999;pond 1;nail 0;pace 2;rub 3;");
            due("ROOM", x.told(0, 7), 1);
            due("NAIL", x.told(0, 8), 0);
            due("PACE", x.told(0, 9), 2);
            due("RUB", x.told(0, 10), 3);
        });
        edge("told again the last holds (but \"gate\": see below)", () -> {
            MillRow x = brook(1000, BASE + "pond 999;gate 5;gate 6;gate 7;");
            due("all gates are there", x.told(0, 11), 3);
            hours(x, 1);
            due("the first holds", x.water(3), 5);
        });
    }

    private static void statements() {
        promise(3);
        edge("at most 30 STATEMENTS in all", () -> {
            wellTold(SHORT + "rub 1;".repeat(28), 29);
            wellTold(SHORT + "rub 1;".repeat(29), 30);
            wellTold(SHORT + "gate 1 if day=1;".repeat(29), 30);
            faultAt(SHORT + "rub 1;".repeat(30), SHORTS + 29 * 6);
        });
        edge("the 31st STATEMENT: where it begins", () -> {
            String thirty = SHORT + "rub 1;".repeat(29);
            faultAt(thirty + " \n nail 1;", thirty.length() + 3);
            faultAt(thirty + "x", thirty.length());
            faultAt(thirty + " \u00ff", thirty.length() + 1);
            faultAt(thirty + ";", thirty.length());
            faultAt(thirty + "gate", thirty.length());
            wellTold(thirty + " \n ", 30);
        });
    }

    private static void nested() {
        promise(3);
        String gate = SHORT + "gate 1 if ";
        edge("\"not\" and \"(\": at most 9 open in one another.", () -> {
            wellTold(gate + "not ".repeat(9) + "hour<3;", 2);
            wellTold(gate + "(".repeat(9) + "hour<3" + ")".repeat(9) + ";", 2);
            wellTold(gate + "not(".repeat(4) + "not hour<3" + ")".repeat(4) + ";", 2);
            wellTold(gate + "(not ".repeat(4) + "(hour<3)" + ")".repeat(4) + ";", 2);
        });
        edge("\"not\" and \"(\": at most 9 open in one another.", () -> {
            wellTold(gate + "(".repeat(8) + "(day=1) or (day=2) and not day=3 or not hour<2" + ")".repeat(8) + ";", 2);
            wellTold(gate + "not hour<3" + " and not hour<3".repeat(12) + ";", 2);
            wellTold(gate + "(hour<3)" + " or (hour<3)".repeat(12) + ";", 2);
            wellTold(gate + "not ".repeat(9) + "hour<3 and " + "(".repeat(9) + "hour<3" + ")".repeat(9) + ";", 2);
            wellTold(gate + "not ".repeat(9) + "hour<3;" + "gate 2 if " + "not ".repeat(9) + "hour<3;", 3);
        });
        edge("\"not\" and \"(\": at most 9 open in one another.", () -> {
            MillRow x = brook(1000, BASE + "gate 1 if " + "not ".repeat(9) + "hour<9;", BASE + "gate 1 if " + "not ".repeat(8) + "hour<9;",
                    BASE + "gate 1 if " + "(".repeat(9) + "hour<9 or day=0 and hour>20" + ")".repeat(9) + ";");
            due("nine times not", x.sleep(0, 0), 15);
            due("nine times not, from", x.sleep(0, 1), 9);
            due("eight times not", x.sleep(1, 0), 15);
            hours(x, 1);
            due("eight times not", x.told(1, 15), 0);
            due("in nine brackets", x.sleep(2, 0), 12);
            due("in nine brackets, from", x.sleep(2, 1), 8);
        });
        edge("the tenth open, too", () -> {
            faultAt(gate + "not ".repeat(10) + "hour<3;", gate.length() + 36);
            faultAt(gate + "(".repeat(10) + "hour<3" + ")".repeat(10) + ";", gate.length() + 9);
            faultAt(gate + "not(".repeat(5) + "hour<3" + ")".repeat(5) + ";", gate.length() + 19);
            faultAt(gate + "(not ".repeat(5) + "hour<3" + ")".repeat(5) + ";", gate.length() + 21);
            faultAt(gate + "not ".repeat(9) + "(hour<3);", gate.length() + 36);
            faultAt(gate + "(".repeat(9) + "not hour<3" + ")".repeat(9) + ";", gate.length() + 9);
            faultAt(gate + "(".repeat(9) + "hour<3 and (hour<3)" + ")".repeat(9) + ";", gate.length() + 20);
            faultAt(gate + "(".repeat(9) + "hour<3 or not hour<3" + ")".repeat(9) + ";", gate.length() + 19);
            faultAt(gate + "(".repeat(300), gate.length() + 9);
            faultAt(gate + "not ".repeat(150), gate.length() + 36);
        });
    }

    private static void mill() {
        promise(3);
        edge("The first n bytes of the tape (which is empty then) are a MILL", () -> {
            MillRow x = new MillRow();
            feed(x, SHORT + "nail 7; and what is no text");
            due("of more bytes the first", x.mill(0, SHORTS + 7), 2);
            due("the tape is empty", x.count(1), 0);
            due("NAIL", x.told(0, 8), 7);
            feed(x, SHORT);
            due("the rest is gone", x.mill(1, SHORTS), 1);
        });
        edge("The first n bytes of the tape (which is empty then) are a MILL", () -> {
            MillRow x = new MillRow();
            due("no bytes of an empty tape", x.mill(0, 0), NONE);
            due("more must come", x.fault(), 0);
            feed(x, SHORT);
            due("no bytes of the tape", x.mill(0, 0), NONE);
            due("more must come", x.fault(), 0);
            due("the tape is empty behind a FAULT", x.count(1), 0);
            due("no MILL", x.count(0), 0);
        });
        edge("The first n bytes of the tape (which is empty then) are a MILL", () -> {
            String text = "wheel over 12 wide 2 buckets 40 deep 15;";
            int[] places = {0, 0, 0, 0, 0, 5, 6, 6, 6, 6, 10, 11, 11, 13, 14, 14, 14, 14, 18, 19, 20, 21, 21, 21, 21, 21, 21, 21, 28, 29, 30, 31, 32, 32, 32,
                32, 36, 37, 38, 39};
            for (int n = 0; n < text.length(); n++) {
                MillRow x = new MillRow();
                feed(x, text);
                due("mill of the first " + n, x.mill(0, n), NONE);
                due("fault of the first " + n + ", whatever stands behind", x.fault(), places[n]);
            }
        });
        edge("how many STATEMENTS (\"wheel\" is one)", () -> {
            wellTold(SHORT, 1);
            wellTold(SHORT + "gate 1;", 2);
            wellTold(SHORT + "pond 1;pond 1;nail 1;pace 1;rub 1;gate 1;gate 1 if day=1;", 8);
        });
        edge("MILLS 0 to 5, each told in a text", () -> {
            MillRow x = new MillRow();
            for (int mill = 5; mill >= 0; mill--) {
                due("mill " + mill, tell(x, mill, "wheel over " + (30 + mill) + " wide 2 buckets 4 deep 5;"), 1);
                due("MILLS told", x.count(0), 6 - mill);
            }
            for (int mill = 0; mill < 6; mill++) {
                due("SIZE of mill " + mill, x.told(mill, 1), 30 + mill);
            }
        });
        edge("-2, doing nothing but REFUSED: n is below 0 or more than there are, no such MILL.", () -> {
            MillRow x = with(SHORT);
            tell(x, 0, "wheel over 1");
            feed(x, BASE);
            refused(x, 0, -2, "n -1", () -> x.mill(0, -1));
            refused(x, 0, -2, "n least", () -> x.mill(0, Integer.MIN_VALUE));
            refused(x, 0, -2, "n more than there are", () -> x.mill(0, 61));
            refused(x, 0, -2, "n greatest", () -> x.mill(0, Integer.MAX_VALUE));
            refused(x, 0, -2, "mill -1", () -> x.mill(-1, BASE.length()));
            refused(x, 0, -2, "mill 6", () -> x.mill(6, BASE.length()));
            refused(x, 0, -2, "mill least", () -> x.mill(Integer.MIN_VALUE, BASE.length()));
            refused(x, 0, -2, "mill greatest", () -> x.mill(Integer.MAX_VALUE, BASE.length()));
            due("SIZE stays", x.told(0, 1), 3);
            due("the tape stays", x.mill(0, BASE.length()), 1);
            due("SIZE", x.told(0, 1), 10);
        });
        edge("-2, doing nothing but REFUSED: n is below 0 or more than there are, no such MILL.", () -> {
            MillRow x = new MillRow();
            refused(x, 0, -2, "one of an empty tape", () -> x.mill(0, 1));
            feed(x, SHORT + "   ");
            due("all there are", x.mill(0, 40), 1);
        });
        edge("NONE: a FAULT (what was stays)", () -> {
            MillRow x = brook(1000, BASE + "pond 500;gate 600;nail 9;", BASE + "pond 50;");
            hours(x, 2);
            x.image();
            long ground = x.ground(0, 0);
            feed(x, "wheel under 3 wide 2 buckets 4 deep 5;pond 3;nail 3;pace 3;rub 3;gate 3;gate");
            due("a FAULT", x.mill(1, x.count(1)), NONE);
            due("the tape is empty", x.count(1), 0);
            int[] told = {1, 10, 2, 20, 12, 5, 0, 50, 100, 50, 0, 0, 144, 50, 100, 0, 140};
            for (int what = 0; what < told.length; what++) {
                due("told " + what, x.told(1, what), told[what]);
            }
            due("ground", x.ground(0, 0), ground);
            due("IMAGES stay", x.count(2), 1);
            due("REFUSED", x.count(5), 1);
            due("not REFUSED for another reason", x.count(3) + x.count(4), 0);
            due("a FAULT tells no MILL", tell(x, 3, "wheel over 3 wide 2 buckets 4 deep 5") + x.told(3, 1), NONE + NONE);
        });
    }

    private static void millInPlace() {
        promise(3);
        edge("what its POND had is GONE", () -> {
            MillRow x = brook(1000, BASE + "pond 500;gate 100;", BASE + "pond 90;");
            hours(x, 2);
            due("GONE", x.water(3), 110);
            due("in the POND", x.told(0, 13), 400);
            tell(x, 0, BASE);
            due("GONE", x.water(3), 110 + 400);
            tell(x, 1, BASE);
            due("GONE", x.water(3), 110 + 400 + 90);
            due("what came", x.water(0), 1200);
            due("on the way", x.water(2), 600);
            tell(x, 2, BASE);
            due("of one that was not there nothing is GONE", x.water(3), 600);
        });
        edge("its POND is empty", () -> {
            MillRow x = brook(1000, BASE + "pond 500;", BASE + "pond 50;");
            hours(x, 3);
            due("in PONDS", x.water(1), 550);
            tell(x, 0, BASE + "pond 500;");
            due("POND", x.told(0, 13), 0);
            due("LEVEL", x.told(0, 14), 0);
            due("the other's POND", x.told(1, 13), 50);
            due("in PONDS", x.water(1), 50);
        });
        edge("it has ground nothing", () -> {
            MillRow x = brook(1000, BASE + "pond 500;gate 500;nail 79;", BASE + "pond 50;gate 10;");
            hours(x, 4);
            due("hours ground", x.ground(0, 1), 4);
            due("hours waded", x.ground(0, 2), 2);
            long other = x.ground(1, 0);
            tell(x, 0, BASE);
            for (int what = 0; what < 3; what++) {
                due("ground " + what, x.ground(0, what), 0);
            }
            due("the other's stays", x.ground(1, 0), other);
            due("hours stay", x.water(4), 4);
        });
        edge("IMAGES are no more", () -> {
            MillRow x = with(BASE);
            for (int i = 0; i < 3; i++) {
                x.image();
            }
            tell(x, 3, BASE);
            due("IMAGES", x.count(2), 0);
            due("restore", x.restore(0), false);
            due("the first again", x.image(), 0);
        });
    }

    private static void fault() {
        promise(4);
        edge("The FAULT's place of the latest mill() that was a number or NONE", () -> {
            MillRow x = new MillRow();
            tell(x, 0, "wheel over x");
            due("a FAULT", x.fault(), 11);
            x.mill(6, 0);
            due("-2 leaves it", x.fault(), 11);
            x.mill(0, 1);
            due("-2 leaves it", x.fault(), 11);
            tell(x, 0, "wheel x");
            due("the latest", x.fault(), 6);
            tell(x, 0, SHORT);
            x.mill(-1, 0);
            due("-2 leaves that there was none", x.fault(), NONE);
        });
        edge("NONE: it had none.", () -> {
            MillRow x = new MillRow();
            due("of a new object", x.fault(), NONE);
            tell(x, 0, "x");
            due("a FAULT", x.fault(), 0);
            tell(x, 0, SHORT);
            due("none", x.fault(), NONE);
        });
        edge("the place of the first byte of the first token (or byte that begins none) with which no such text goes on", () -> {
            faultAt("  wheels over 3 wide 2 buckets 4 deep 5;", 2);
            faultAt("wheel over 3 wide 2 buckets 4 depp 5;", 30);
            faultAt("wheel over 3 wide 2 buckets 4 deep 5; nails 1;x", 38);
            faultAt("wheel over 3 wide 2 buckets 4 deep 5; Nail 1;", 38);
            faultAt("wheel over 3 wide 2 buckets 4 deep 5; n", 38);
            faultAt(SHORT + "nail 1\t;", SHORTS + 6);
            faultAt(SHORT + "nail -1;", SHORTS + 5);
            faultAt(SHORT + "nail 1.5;", SHORTS + 6);
            faultAt(SHORT + "nail 1,5;", SHORTS + 6);
            faultAt(SHORT + "nail 101 x;", SHORTS + 5);
            faultAt(SHORT + "gate 5 if hour\u00e4<3;", SHORTS + 14);
        });
        edge("(a number that isn't so, the tenth open, too)", () -> {
            faultAt("wheel over 1", 11);
            faultAt("wheel over 41 x", 11);
            faultAt(SHORT + "pace 301;", SHORTS + 5);
            faultAt(SHORT + "gate 5 if hour<10000", SHORTS + 15);
            faultAt(SHORT + "gate 5 if " + "(".repeat(10), SHORTS + 19);
        });
        edge("the text's length, if more must come", () -> {
            String whole = "wheel over 3 wide 2 buckets 4 deep 5 slant 6 at 7;gate 8 if not ( hour < 3 ) and day = 1;";
            int[] ends = {0, 5, 10, 12, 17, 19, 27, 29, 34, 36, 42, 44, 47, 49, 54, 56, 59, 63, 65, 70, 72, 74, 76, 80, 84, 86, 88};
            for (int end : ends) {
                faultAt(whole.substring(0, end), end);
                faultAt(whole.substring(0, end) + " \n ", end + 3);
            }
            wellTold(whole, 2);
            faultAt(" ".repeat(700), 700);
        });
        edge("the text's length, if more must come", () -> {
            for (String begun : new String[] {"pond", "pond 1", "nail", "nail 1", "pace", "pace 1", "rub", "rub 1", "gate", "gate 1"}) {
                faultAt(SHORT + begun, SHORTS + begun.length());
            }
        });
    }

    private static void told() {
        promise(5);
        edge("NONE: none such.", () -> {
            MillRow x = new MillRow();
            tell(x, 1, SHORT);
            tell(x, 4, UNDER);
            mills("SIZE", NONE, mill -> x.told(mill, 1), 1, 4);
            range("told", 0, 16, what -> x.told(1, what));
            range("told", 0, 15, what -> what == 12 ? 0 : x.told(4, what));
        });
        edge("0 whether it's over (1)", () -> {
            MillRow x = with(SHORT, UNDER);
            due("over", x.told(0, 0), 1);
            due("under", x.told(1, 0), 0);
            tell(x, 0, UNDER);
            due("in its place", x.told(0, 0), 0);
        });
        edge("11 how many \"gate\"", () -> {
            MillRow x = with(SHORT, SHORT + "gate 1;", SHORT + "gate 1 if day=1;".repeat(29));
            due("none", x.told(0, 11), 0);
            due("one", x.told(1, 11), 1);
            due("as many as there can be", x.told(2, 11), 29);
        });
        edge("12 CAP (over)", () -> {
            MillRow x = with(SHORT, UNDER);
            due("over", x.told(0, 12), 12 * 2 * 5 * 3 / 4);
            due("under", x.told(1, 12), NONE);
        });
        edge("16 LAST (over)", () -> {
            MillRow x = with(BASE, UNDER);
            due("over", x.told(0, 16), 140);
            due("under", x.told(1, 16), NONE);
        });
    }

    private static void toldNumbers() {
        promise(5);
        edge("12 times WIDE, DEEP, SIZE by MANY (cut) pints", () -> {
            MillRow x = with("wheel over 2 wide 1 buckets 80 deep 1;", "wheel over 2 wide 1 buckets 24 deep 1;", "wheel over 2 wide 1 buckets 25 deep 1;",
                    "wheel over 40 wide 20 buckets 4 deep 24;", "wheel over 2 wide 1 buckets 13 deep 1;");
            long[] caps = {0, 1, 0, 57_600, 1};
            for (int mill = 0; mill < caps.length; mill++) {
                due("CAP " + mill, x.told(mill, 12), caps[mill]);
            }
        });
        edge("13 POND, 14 LEVEL, 15 what is on the way from it", () -> {
            MillRow x = brook(1000, BASE + "pond 700;gate 9;", BASE + "pond 3;gate 2;", UNDER + "pond 3;");
            for (int what = 13; what <= 15; what++) {
                due("at first", x.told(0, what), 0);
            }
            hours(x, 1);
            due("POND", x.told(0, 13), 591);
            due("LEVEL is cut", x.told(0, 14), 84);
            due("on the way", x.told(0, 15), 9);
            hours(x, 2);
            due("POND of the next", x.told(1, 13), 1);
            due("LEVEL of the next", x.told(1, 14), 33);
            due("a full POND under", x.told(2, 13), 3);
            due("LEVEL of a full one", x.told(2, 14), 100);
            due("what goes on from the last is GONE", x.told(2, 15), 0);
        });
        edge("the first degree at which it HOLDS nothing (PACE as told; 180 at most)", () -> {
            MillRow x = with(BASE, "wheel over 40 wide 20 buckets 4 deep 24 slant 9;pace 1;", "wheel over 40 wide 20 buckets 4 deep 24 slant 0;pace 1;",
                    "wheel over 2 wide 1 buckets 80 deep 1 slant 9;pace 1;", "wheel over 40 wide 20 buckets 4 deep 24 slant 9;pace 300;",
                    "wheel over 2 wide 1 buckets 24 deep 1 slant 9;pace 1;");
            int[] lasts = {140, 172, 100, 0, 0, 113};
            for (int mill = 0; mill < 6; mill++) {
                int pace = x.told(mill, 9);
                due("LAST of mill " + mill, x.told(mill, 16), lasts[mill]);
                due("HOLDS there", x.holds(mill, pace, lasts[mill]), 0);
                due("HOLDS before", lasts[mill] == 0 || x.holds(mill, pace, lasts[mill] - 1) > 0, true);
            }
        });
    }
}
