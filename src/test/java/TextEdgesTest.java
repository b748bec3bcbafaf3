/** The TAPE, the three sorts of TEXTS and their FAULTS: each edge that the document names. */
public final class TextEdgesTest {
    private static final int NONE = Check.NONE;
    private static final int COUNTY = 0;
    private static final int LAW = 1;
    private static final int WAY = 2;
    private static final String DIGITS = "0123456789";
    private static final String ATOMS = DIGITS + "ldncry";
    private static final String SEVEN = "p;p;p;p;p;p;p";

    private static void due(String what, long got, long want) {
        Check.due(what, got, want);
    }

    private static void faultDue(int sort, String text, int want) {
        Check.faultDue(sort, text, want);
    }

    /** Each byte behind a text: it is whole then, or goes on (and has ended too early), or can't. */
    private static void next(int sort, String text, String goesOn, String whole) {
        for (int sign = 1; sign < 256; sign++) {
            int want = text.length();
            if (whole.indexOf(sign) >= 0) {
                want = NONE;
            } else if (goesOn.indexOf(sign) >= 0) {
                want = text.length() + 1;
            }
            faultDue(sort, text + (char) sign, want);
        }
    }

    // promises 1, 2, 3

    private static void newObject() {
        Check.says("`RoadWheels()`: No COUNTY.");
        RoadWheels x = new RoadWheels();
        for (int what = 0; what < 12; what++) {
            due("count(" + what + ")", x.count(what), what == 6 ? NONE : what == 8 ? 2 : 0);
        }
        due("rule", x.rule(0), NONE);
        due("road", x.road(0, 0), NONE);
        due("spot", x.spot(0, 0), NONE);
        due("wheels", Check.wheels(x, 0, 0), Check.THROWN);
        due("image", x.image(), NONE);
        due("back", x.back(), NONE);
        Check.says("`NONE = -1`: None; refused.");
        due("NONE", NONE, -1);
        Check.says("`HIDDEN = -1000000`: Not told.");
        due("HIDDEN", Check.HIDDEN, -1000000);
    }

    private static void bytesOfNumbers() {
        Check.says("`int feed(int a, int b, int c, int d, int e)`: Twenty bytes more come to the TAPE");
        due("none yet", new RoadWheels().feed(0, 0, 0, 0, 0), 0);
        due("twenty", new RoadWheels().feed(-1, -1, -1, -1, -1), 20);
        due("twenty of 1", new RoadWheels().feed(0x01010101, 0x01010101, 0x01010101, 0x01010101, 0x01010101), 20);
        due("twenty of 128", new RoadWheels().feed(0x80808080, 0x80808080, 0x80808080, 0x80808080, 0x80808080), 20);
        Check.says("(of each number the highest first; bytes of 0 are left out): how many it has.");
        for (int at = 0; at < 20; at++) {
            int[] words = new int[5];
            words[at / 4] = 0x80 << 24 - at % 4 * 8;
            due("a byte at " + at, new RoadWheels().feed(words[0], words[1], words[2], words[3], words[4]), 1);
            wayOfTwentyWithout(at);
        }
        RoadWheels x = new RoadWheels();
        x.feed(0x30313233, 0x34353637, 0x38393031, 0, 0);
        due("twelve digits", x.text(WAY), 0);
        for (int i = 0; i < 12; i++) {
            due("digit " + i, x.walked(0, i), i % 10);
        }
    }

    /** Digits stand at twelve of twenty bytes, nothing at the others, one of which moves. */
    private static void wayOfTwentyWithout(int out) {
        RoadWheels x = new RoadWheels();
        int[] words = new int[5];
        int told = 0;
        int[] digits = new int[12];
        for (int at = 0; at < 20 && told < 12; at++) {
            if (at != out) {
                digits[told] = (at * 7 + 3) % 10;
                words[at / 4] |= '0' + digits[told] << 24 - at % 4 * 8;
                told++;
            }
        }
        due("twelve without byte " + out, x.feed(words[0], words[1], words[2], words[3], words[4]), 12);
        due("a way of them", x.text(WAY), 0);
        for (int i = 0; i < 12; i++) {
            due("digit " + i + " without byte " + out, x.walked(0, i), digits[i]);
        }
    }

    private static RoadWheels tapeOf(int bytes) {
        RoadWheels x = new RoadWheels();
        Check.feed(x, Check.times(bytes, "1", ""));
        return x;
    }

    private static void fullTape() {
        Check.says("NONE: more than 240.");
        due("220 and 20", tapeOf(220).feed(-1, -1, -1, -1, -1), 240);
        due("221 and 19", tapeOf(221).feed(-1, -1, 0x00ffffff, -1, -1), 240);
        RoadWheels x = tapeOf(221);
        due("221 and 20", x.feed(-1, -1, -1, -1, -1), NONE);
        due("still 221", x.count(5), 221);
        due("239 and 1", tapeOf(239).feed(0, 0, 0, 0, 1), 240);
        due("239 and 2", tapeOf(239).feed(1, 0, 0, 0, 1), NONE);
        due("240 and none", tapeOf(240).feed(0, 0, 0, 0, 0), 240);
        due("240 and 1", tapeOf(240).feed(0, 0, 1, 0, 0), NONE);
        due("240 and 20", tapeOf(240).feed(-1, -1, -1, -1, -1), NONE);
        due("239", tapeOf(239).count(5), 239);
        due("240", tapeOf(240).count(5), 240);
    }

    private static void ends() {
        Check.says("`boolean end(int n)`: The TAPE has its first n bytes alone.");
        RoadWheels x = new RoadWheels();
        Check.feed(x, "0123456");
        Check.due("end(7)", x.end(7), true);
        due("7 bytes", x.count(5), 7);
        Check.due("end(6)", x.end(6), true);
        due("6 bytes", x.count(5), 6);
        Check.due("end(3)", x.end(3), true);
        Check.feed(x, "98");
        due("its first three, and two more", x.text(WAY), 0);
        due("five", x.walked(0, NONE), 5);
        due("the third", x.walked(0, 2), 2);
        due("the fourth", x.walked(0, 3), 9);
        Check.says("False: n.");
        Check.due("end(1) of none", x.end(1), false);
        Check.due("end(0) of none", x.end(0), true);
        Check.feed(x, "01");
        for (int n : new int[] {-1, 3, Integer.MIN_VALUE, Integer.MAX_VALUE}) {
            Check.due("end(" + n + ") of two", x.end(n), false);
            due("still two", x.count(5), 2);
        }
        Check.due("end(0)", x.end(0), true);
        due("empty", x.count(5), 0);
        RoadWheels full = tapeOf(240);
        Check.due("end(241)", full.end(241), false);
        Check.due("end(240)", full.end(240), true);
    }

    /** Bytes that were there behind the TAPE's end are gone, whatever they were. */
    private static void firstBytesAlone() {
        Check.says("The TAPE has its first n bytes alone. False: n.");
        String[] texts = {"p ; p ; r ; w ", "sh12k99;pc9;p;rl9;ws1   ", "y : l = 12 ? [ d ] ; y : 9999 ", "y:!!!(((l<1)))|d=2?3",
            "  0 1 2 3 4  ", "012345678901", "0   "};
        for (String text : texts) {
            for (int n = 0; n <= text.length(); n++) {
                RoadWheels x = new RoadWheels();
                Check.feed(x, text);
                Check.due("end(" + n + ") of " + text, x.end(n), true);
                for (int sort = 0; sort < 3; sort++) {
                    due("fault(" + sort + ") of " + n + " of " + text, x.fault(sort), Check.fault(sort, text.substring(0, n)));
                }
            }
        }
        RoadWheels y = new RoadWheels();
        Check.feed(y, "p;p   ");
        y.end(3);
        due("ends too early", y.fault(COUNTY), 3);
    }

    private static void longTexts() {
        Check.says("how many it has. NONE: more than 240.");
        String blanks = Check.times(240, " ", "");
        longDue(COUNTY, ("p;p;r;w" + blanks).substring(0, 240), NONE);
        longDue(COUNTY, blanks.substring(7) + "p;p;r;w", NONE);
        longDue(COUNTY, blanks.substring(6) + "p;p;r;", 240);
        longDue(COUNTY, blanks.substring(6) + "p;p;rl", 240);
        longDue(COUNTY, blanks, 240);
        longDue(LAW, "y:" + Check.times(118, "1", "+") + "+11", NONE);
        longDue(LAW, Check.times(60, "y:l", ";") + " ", NONE);
        longDue(LAW, Check.times(60, "y:l", ";") + ";", 240);
        longDue(LAW, "y:" + Check.times(118, "1", "+") + "+1+", 240);
        longDue(LAW, blanks.substring(6) + "y:9999", NONE);
        longDue(LAW, blanks, 240);
        longDue(WAY, blanks.substring(2) + "01", NONE);
        longDue(WAY, blanks.substring(1) + "0", 240);
        longDue(WAY, Check.times(240, "0", ""), 12);
        RoadWheels x = Check.lawful("y:" + Check.times(118, "1", "+") + "-99", "p;p;r;w");
        due("LONG by 240 bytes", x.road(0, 4), 19);
    }

    private static void longDue(int sort, String text, int want) {
        due("240 bytes", text.length(), 240);
        faultDue(sort, text, want);
    }

    /** What was told with a FAULT leaves nothing to what is told behind it. */
    private static RoadWheels told(String first, int sort, String... then) {
        RoadWheels x = new RoadWheels();
        Check.tell(x, sort, first);
        for (String text : then) {
            Check.tell(x, text.startsWith("y") ? LAW : text.startsWith("0") ? WAY : COUNTY, text);
        }
        x.law(0);
        x.end(0);
        return x;
    }

    private static void behindFaults() {
        Check.says("What is refused answers as told and changes nothing but STATUS.");
        Look look = new Look();
        String[] then = {"p;p;r;w", "y:l=3?2;y:d", "010"};
        String[] faults = {"sh1k1;pc9;pc9;pc9;ra2b1l9d9;ra1b0;ws2;ws1;x", "y:l>1?9999;y:", "012345678901x"};
        for (int sort = 0; sort < 3; sort++) {
            String fault = faults[sort];
            int as = sort;
            look.alike("behind " + fault, () -> told(fault, as, then), () -> told("", as, then));
        }
    }

    // the COUNTY

    private static void clauses() {
        Check.says("A COUNTY is a TEXT: CLAUSES with ; between:");
        faultDue(COUNTY, "p;p;r;w", NONE);
        faultDue(COUNTY, ";p;p;r;w", 0);
        faultDue(COUNTY, "p;;p;r;w", 2);
        faultDue(COUNTY, "p;p;r;w;", 8);
        faultDue(COUNTY, "pp;r;w", 1);
        next(COUNTY, "", "sprw ", "");
        next(COUNTY, "p;", "sprw ", "");
        next(COUNTY, "p;p;r;w", "s;", " ");
        next(COUNTY, "p;p;r;w;", " ", "sprw");
        Check.says("s (its RULES; one at most),");
        faultDue(COUNTY, "p;p;r;w;s", NONE);
        faultDue(COUNTY, "s;p;p;r;w;s", 10);
        next(COUNTY, "s;", "prw ", "");
        Check.says("p (a PLACE; 2 .. 7),");
        howMany("p", 2, 7, "r;w", 0);
        next(COUNTY, SEVEN + ";", "srw ", "");
        Check.says("r (a ROAD; 1 .. 12),");
        howMany("r", 1, 12, "p;p;w", 1);
        next(COUNTY, Check.times(12, "r", ";") + ";", "spw ", "");
        Check.says("w (a SET; 1 .. 4),");
        howMany("w", 1, 4, "p;p;r", 2);
        next(COUNTY, "w;w;w;w;", "spr ", "");
    }

    private static void howMany(String clause, int least, int most, String rest, int counted) {
        for (int n = 0; n <= most + 1; n++) {
            String all = n == 0 ? rest : Check.times(n, clause, ";") + ";" + rest;
            int want = n < least ? all.length() : n > most ? 2 * most : NONE;
            faultDue(COUNTY, all, want);
            if (want == NONE) {
                due("how many " + clause, Check.county(all).count(counted), n);
            }
        }
    }

    private static void anyOrder() {
        Check.says("w (a SET; 1 .. 4), in any order,");
        String[] parts = {"sh5", "pc1;pc2", "rl7", "ws1"};
        for (int order = 0; order < 256; order++) {
            int[] at = {order & 3, order >> 2 & 3, order >> 4 & 3, order >> 6 & 3};
            if ((1 << at[0] | 1 << at[1] | 1 << at[2] | 1 << at[3]) == 15) {
                RoadWheels x = Check.county(parts[at[0]] + ";" + parts[at[1]] + ";" + parts[at[2]] + ";" + parts[at[3]]);
                due("PLACES", x.count(0), 2);
                due("HOURS", x.rule(0), 5);
                due("CUSTOMERS", x.spot(1, 0), 2);
                due("LENGTH", x.road(0, 2), 7);
                due("where", Check.wheels(x, 0, 0), 1);
            }
        }
        faultDue(COUNTY, "p;w;r;s;p", NONE);
    }

    private static void items() {
        Check.says("then ITEMS, none or more:");
        next(COUNTY, "s", "hk; ", "");
        next(COUNTY, "p", "c; ", "");
        next(COUNTY, "r", "abld; ", "");
        next(COUNTY, "w", "s; ", "");
        faultDue(COUNTY, "s;p;p;r;w", NONE);
        faultDue(COUNTY, "sh1k1;pc1;pc1;ra1b0l1d1;ws1", NONE);
        String[] all = {"a1", "b0", "l7", "d8"};
        for (int order = 0; order < 256; order++) {
            int[] at = {order & 3, order >> 2 & 3, order >> 4 & 3, order >> 6 & 3};
            if ((1 << at[0] | 1 << at[1] | 1 << at[2] | 1 << at[3]) == 15) {
                RoadWheels x = Check.county("p;p;w;r" + all[at[0]] + all[at[1]] + all[at[2]] + all[at[3]]);
                due("of a ROAD", x.road(0, 0) * 1000 + x.road(0, 1) * 100 + x.road(0, 2) * 10 + x.road(0, 3), 1078);
            }
        }
        Check.says("a letter, each once at most in a CLAUSE,");
        faultDue(COUNTY, "sh1k1;pc1;pc1;ra1b0;ra1b0;ws1;ws1", NONE);
        Check.says("a letter that was there,");
        String[] twice = {"sh1h1", "sk1k1", "pc1c1", "ra1a1", "rb1b1", "rl1l1", "rd1d1", "ws1s1"};
        for (String text : twice) {
            faultDue(COUNTY, text, 3);
        }
        faultDue(COUNTY, "sh1k1h", 5);
        faultDue(COUNTY, "ra1b1l1d1 a", 10);
        faultDue(COUNTY, "ra1b1l1d1 l", 10);
        next(COUNTY, "sh12", "k; ", "");
        next(COUNTY, "sk12", "h; ", "");
        next(COUNTY, "pc06", "; ", "");
        next(COUNTY, "ra06", "bld; ", "");
        next(COUNTY, "ra06l09", "bd; ", "");
        next(COUNTY, "ra06l09d09b01", "; ", "");
        next(COUNTY, "ws06", "; ", "");
    }

    private static void numbers() {
        Check.says("and a number (one or two digits):");
        next(COUNTY, "sh", "123456789 ", "");
        next(COUNTY, "sk", DIGITS + " ", "");
        next(COUNTY, "pc", DIGITS + " ", "");
        next(COUNTY, "ra", "0123456 ", "");
        next(COUNTY, "rb", "0123456 ", "");
        next(COUNTY, "rl", "123456789 ", "");
        next(COUNTY, "rd", DIGITS + " ", "");
        next(COUNTY, "ws", "0123456 ", "");
        next(COUNTY, "sh1", DIGITS + "k; ", "");
        next(COUNTY, "sh2", "01234k; ", "");
        next(COUNTY, "sk9", DIGITS + "h; ", "");
        next(COUNTY, "pc0", DIGITS + "; ", "");
        next(COUNTY, "p;p;r;ws", "23456 ", "01");
        faultDue(COUNTY, "sh", 2);
        faultDue(COUNTY, "shk1", 2);
        Check.says("of s: h HOURS a DAY (1 .. 24; 12 without),");
        bounds("s", "h", ";p;p;r;w", 1, 24, x -> x.rule(0));
        due("HOURS without", Check.county("s;p;p;r;w").rule(0), 12);
        due("HOURS without RULES", Check.county("p;p;r;w").rule(0), 12);
        Check.says("k COINS (0 .. 99; 20);");
        bounds("s", "k", ";p;p;r;w", 0, 99, x -> x.rule(1));
        due("COINS without", Check.county("s;p;p;r;w").rule(1), 20);
        due("COINS without RULES", Check.county("p;p;r;w").rule(1), 20);
        Check.says("of p: c CUSTOMERS (0 .. 9; 3);");
        bounds("p", "c", ";p;r;w", 0, 9, x -> x.spot(0, 0));
        due("CUSTOMERS without", Check.county("p;pc1;r;w").spot(0, 0), 3);
        due("CUSTOMERS without, behind one with", Check.county("pc1;p;r;w").spot(1, 0), 3);
        Check.says("of r: a, b between which PLACES (0 .. 6 each; 0, 1),");
        for (int n = 0; n < 110; n++) {
            String other = valueOf(n) == 6 ? "5" : "6";
            boundsOf(SEVEN + ";w;rb" + other + "a", n, "", 0, 6, x -> x.road(0, 0));
            boundsOf(SEVEN + ";w;ra" + other + "b", n, "", 0, 6, x -> x.road(0, 1));
        }
        due("a without", Check.county("p;p;p;rb2;w").road(0, 0), 0);
        due("b without", Check.county("p;p;p;ra2;w").road(0, 1), 1);
        Check.says("l LENGTH (1 .. 9; 4),");
        bounds("p;p;w;r", "l", "", 1, 9, x -> x.road(0, 2));
        due("LENGTH without, behind one with", Check.county("p;p;rl9;r;w").road(1, 2), 4);
        Check.says("d how ROUGH (0 .. 9; 2);");
        bounds("p;p;w;r", "d", "", 0, 9, x -> x.road(0, 3));
        due("how ROUGH without, behind one with", Check.county("p;p;rd9;r;w").road(1, 3), 2);
        Check.says("of w: s at which PLACE (0 .. 6; 0).");
        bounds(SEVEN + ";r;w", "s", "", 0, 6, x -> Check.wheels(x, 0, 0));
        due("s without, behind one with", Check.wheels(Check.county("p;p;r;ws1;w"), 1, 0), 0);
    }

    private static void bounds(String head, String letter, String tail, int least, int most, Look.Ask told) {
        for (int n = 0; n < 110; n++) {
            boundsOf(head + letter, n, tail, least, most, told);
        }
    }

    /** 0 .. 99 are told with two digits, 100 .. 109 are 0 .. 9 with one. */
    private static void boundsOf(String head, int n, String tail, int least, int most, Look.Ask told) {
        int value = valueOf(n);
        String number = n < 100 ? "" + n / 10 + n % 10 : "" + value;
        String text = head + number + tail;
        if (value < least || value > most) {
            faultDue(COUNTY, text, head.length() + number.length() - 1);
            return;
        }
        faultDue(COUNTY, text, NONE);
        due("told by " + text, told.of(Check.county(text)), value);
    }

    private static int valueOf(int n) {
        return n % 100;
    }

    private static void thirdDigits() {
        Check.says("a third digit (a fifth one in a LAW) itself, whatever stands ahead of it,");
        String[] heads = {"sh", "sk", "pc", "ra", "rb", "rl", "rd", "ws"};
        for (String head : heads) {
            for (int n = 0; n < 1000; n++) {
                faultDue(COUNTY, head + n / 100 + n / 10 % 10 + n % 10, 4);
            }
        }
        faultDue(COUNTY, "sh 25 1", 4);
        for (int n = 0; n < 100000; n += 7) {
            String five = "" + n / 10000 + n / 1000 % 10 + n / 100 % 10 + n / 10 % 10 + n % 10;
            faultDue(LAW, "y:" + five, 6);
        }
        faultDue(LAW, "y:0000", NONE);
        faultDue(LAW, "y:9999", NONE);
        faultDue(LAW, "y:l=00000", 8);
        faultDue(LAW, "y:l=9999?1", NONE);
        faultDue(LAW, "y:[12345", 7);
        faultDue(LAW, "y:l=1?12345", 10);
        Check.says("a number out of bounds is wrong at its last digit,");
        faultDue(COUNTY, "sh0", 2);
        faultDue(COUNTY, "sh00", 3);
        faultDue(COUNTY, "sh 25 ;", 4);
        faultDue(COUNTY, "ra7", 2);
        faultDue(COUNTY, "ra70", 3);
        faultDue(COUNTY, "ra07", 3);
        faultDue(COUNTY, "rl00", 3);
        faultDue(COUNTY, "ws99b", 3);
    }

    private static void wholeCounties() {
        Check.says("FAULT: the first byte at which no such TEXT can go on");
        faultDue(COUNTY, "x", 0);
        faultDue(COUNTY, "p;p;r;wx;x", 7);
        faultDue(COUNTY, "ra9;sh99;s", 2);
        Check.says("(the length, if it ends too early,");
        faultDue(COUNTY, "", 0);
        faultDue(COUNTY, "  ", 2);
        faultDue(COUNTY, "p;p;r;w; ", 9);
        faultDue(COUNTY, "p;p;r;w;s h ", 12);
        faultDue(LAW, "", 0);
        faultDue(LAW, " ", 1);
        faultDue(LAW, "y:l= ", 5);
        faultDue(WAY, "", 0);
        faultDue(WAY, " 1 ", 3);
        Check.says("with fewer than two PLACES,");
        faultDue(COUNTY, "r;w", 3);
        faultDue(COUNTY, "p;r;w", 5);
        faultDue(COUNTY, "p;r;w;p", NONE);
        Check.says("without a ROAD, a SET,");
        faultDue(COUNTY, "p;p;w", 5);
        faultDue(COUNTY, "p;p;r", 5);
        faultDue(COUNTY, "p;p", 3);
        faultDue(COUNTY, "s;p;p;r;w ", NONE);
        Check.says("with a ROAD or a SET at a PLACE that is not told,");
        for (int places = 2; places <= 7; places++) {
            String all = Check.times(places, "p", ";");
            faultDue(COUNTY, all + ";rb" + (places - 1) + ";w", NONE);
            faultDue(COUNTY, all + ";ra" + (places - 1) + "b0;w", NONE);
            faultDue(COUNTY, all + ";r;ws" + (places - 1), NONE);
            faultDue(COUNTY, "ws" + (places - 1) + ";r;" + all, NONE);
            if (places < 7) {
                faultDue(COUNTY, all + ";rb" + places + ";w", all.length() + 6);
                faultDue(COUNTY, all + ";ra" + places + ";w", all.length() + 6);
                faultDue(COUNTY, all + ";r;ws" + places, all.length() + 6);
                faultDue(COUNTY, "w;ws" + places + ";r;" + all + " ", all.length() + 9);
                faultDue(COUNTY, "w;r;rb" + places + ";" + all, all.length() + 8);
            }
        }
        Check.says("with a ROAD from a PLACE to itself):");
        for (int place = 0; place < 7; place++) {
            faultDue(COUNTY, SEVEN + ";w;ra" + place + "b" + place, 21);
            faultDue(COUNTY, SEVEN + ";w;ra" + place + "b" + (place + 1) % 7, NONE);
        }
        faultDue(COUNTY, "p;p;ra1;w", 9);
        faultDue(COUNTY, "p;p;rb0;w", 9);
        faultDue(COUNTY, "p;p;r;ra1;w;x", 12);
        Check.says("a second s, an eighth p, a 13th r, a fifth w,");
        faultDue(COUNTY, "s;s", 2);
        faultDue(COUNTY, "sh1; s", 5);
        faultDue(COUNTY, SEVEN + ";p;r;w", 14);
        faultDue(COUNTY, SEVEN + "; pc99", 15);
        faultDue(COUNTY, Check.times(13, "r", ";") + ";p;p;w", 24);
        faultDue(COUNTY, "w;w;w;w;w;p;p;r", 8);
    }

    private static void blanks() {
        Check.says("Blanks (32) may stand between all signs of all three, not within numbers.");
        faultDue(COUNTY, "  s  h  24  k  00  ;  p  ;  p  c  9  ;  r  a  0  b  1  ;  w  s  1  ", NONE);
        faultDue(COUNTY, "sh1 2;p;p;r;w", 4);
        faultDue(COUNTY, "sh 2 4", 5);
        faultDue(COUNTY, "p;p;r;ws0 1", 10);
        faultDue(LAW, "  y  :  !  (  l  >  12  |  d  <  [  n  ]  )  &  1  =  1  ?  l  +  1  ;  y  :  l  ", NONE);
        faultDue(LAW, "y:1 2", 4);
        faultDue(LAW, "y:99 99", 5);
        faultDue(LAW, "y : l = 1 2", 10);
        faultDue(WAY, "  0  1  2  ", NONE);
        faultDue(WAY, "0 1 2 3 4 5 6 7 8 9 0 1 ", NONE);
        RoadWheels x = Check.county("p;p;r;w", " 0   1 ");
        due("two PLACES between blanks", x.walked(0, NONE), 2);
        for (int sign : new int[] {9, 10, 11, 12, 13, 31, 33, 95, 160}) {
            faultDue(COUNTY, (char) sign + "p;p;r;w", 0);
            faultDue(COUNTY, "p;p;r;w" + (char) sign, 7);
            faultDue(LAW, "y" + (char) sign + ":l", 1);
            faultDue(WAY, "0" + (char) sign + "1", 1);
        }
    }

    // LAWS and WAYS

    private static void lawClauses() {
        Check.says("CLAUSES with ; between, one at least:");
        faultDue(LAW, "y:l", NONE);
        faultDue(LAW, "y:l;y:d;y:n", NONE);
        faultDue(LAW, "y:l;", 4);
        faultDue(LAW, ";y:l", 0);
        faultDue(LAW, "y:l;;y:l", 4);
        faultDue(LAW, "y:l y:l", 4);
        faultDue(LAW, Check.times(60, "y:l", ";"), NONE);
        Check.says("y, : , perhaps CONDITION ?, then SUM.");
        next(LAW, "", "y ", "");
        next(LAW, "y", ": ", "");
        next(LAW, "y:", "[!( ", ATOMS);
        next(LAW, "y:l", "+-*/=<>;", " ");
        next(LAW, "y:l=d", "+-*/&|? ", "");
        next(LAW, "y:l=d?", "[ ", ATOMS);
        next(LAW, "y:l=d?l", "+-*/;", " ");
        next(LAW, "y:l;", "y ", "");
        next(LAW, "y:l=d?l;", "y ", "");
        Check.says("CONDITION: TRUTHS with | between; TRUTH: UNITS with & between;");
        next(LAW, "y:l=d&", ATOMS + "[(! ", "");
        next(LAW, "y:l=d|", ATOMS + "[(! ", "");
        next(LAW, "y:(l=d&", ATOMS + "[(! ", "");
        next(LAW, "y:(l=d)|", ATOMS + "[(! ", "");
        faultDue(LAW, "y:l=d&d=l|n<c&!r>y?1", NONE);
        Check.says("UNIT: ! UNIT, ( CONDITION ), or SUM, one of = < >, SUM.");
        next(LAW, "y:!", ATOMS + "[(! ", "");
        next(LAW, "y:!l", "+-*/=<> ", "");
        next(LAW, "y:!l=d", "+-*/&|? ", "");
        next(LAW, "y:(", ATOMS + "[(! ", "");
        next(LAW, "y:(l", "+-*/=<> ", "");
        next(LAW, "y:(l=d", "+-*/&|) ", "");
        next(LAW, "y:(l=d)", "&|? ", "");
        next(LAW, "y:(l=d)?", "[ ", ATOMS);
        for (String sign : new String[] {"=", "<", ">"}) {
            next(LAW, "y:l" + sign, ATOMS + "[ ", "");
            next(LAW, "y:(l" + sign, ATOMS + "[ ", "");
        }
        Check.says("SUM: TERMS with + or - between; TERM: ATOMS with * or / between;");
        for (String sign : new String[] {"+", "-", "*", "/"}) {
            next(LAW, "y:l" + sign, "[ ", ATOMS);
            next(LAW, "y:l=d" + sign, ATOMS + "[ ", "");
            next(LAW, "y:l=d?d" + sign, "[ ", ATOMS);
        }
        Check.says("ATOM: a number (1 to 4 digits), a letter (l d n c r y), [ SUM ].");
        next(LAW, "y:1", "+-*/=<>;", DIGITS + " ");
        next(LAW, "y:123", "+-*/=<>;", DIGITS + " ");
        next(LAW, "y:1234", "+-*/=<>;", " ");
        next(LAW, "y:l=1", "+-*/&|? " + DIGITS, "");
        next(LAW, "y:l=1234", "+-*/&|? ", "");
        next(LAW, "y:[", ATOMS + "[ ", "");
        next(LAW, "y:[l", "+-*/ ", "]");
        next(LAW, "y:[l]", "+-*/=<>;", " ");
        next(LAW, "y:l=[d]", "+-*/&|? ", "");
        Check.says("(A CLAUSE that goes on with ! or ( behind its : has a CONDITION.)");
        faultDue(LAW, "y:(l)", 4);
        faultDue(LAW, "y:(l=1)", 7);
        faultDue(LAW, "y:(l=1);y:1", 7);
        faultDue(LAW, "y:!l", 4);
        faultDue(LAW, "y:!l=1;y:1", 6);
        faultDue(LAW, "y:!l=1?1", NONE);
        faultDue(LAW, "y:(l=1)?1", NONE);
        faultDue(LAW, "y:(l=1)+1", 7);
    }

    private static void sixWithin() {
        Check.says("At most six of ( [ ! within one another.");
        next(LAW, "y:(((((", ATOMS + "[(! ", "");
        next(LAW, "y:!!!!!", ATOMS + "[(! ", "");
        next(LAW, "y:[[[[[", ATOMS + "[ ", "");
        next(LAW, "y:!!!!!l=", ATOMS + "[ ", "");
        faultDue(LAW, "y:((((((l=1))))))?1", NONE);
        faultDue(LAW, "y:!!!!!!l=1?1", NONE);
        faultDue(LAW, "y:[[[[[[l]]]]]]", NONE);
        faultDue(LAW, "y:(!(!([l]=1)))?1", NONE);
        Check.says("a seventh of ( [ ! at it.");
        next(LAW, "y:((((((", ATOMS + " ", "");
        next(LAW, "y:!!!!!!", ATOMS + " ", "");
        next(LAW, "y:[[[[[[", ATOMS + " ", "");
        next(LAW, "y:!!!!![", ATOMS + " ", "");
        next(LAW, "y:!!!!!!l=", ATOMS + " ", "");
        next(LAW, "y:((((((l=", ATOMS + " ", "");
        for (int bits = 0; bits < 128; bits++) {
            sevenOf(bits);
        }
        faultDue(LAW, "y:(((((([", 8);
        faultDue(LAW, "y:[l]+[l]+[l]+[l]+[l]+[l]+[l]+[l]", NONE);
        faultDue(LAW, "y:!l=1&!l=1&!l=1|!l=1&!l=1&!l=1&!l=1?1", NONE);
        faultDue(LAW, "y:(l=1)&(l=1)&(l=1)&(l=1)|(l=1)&(l=1)&(l=1)?1", NONE);
        faultDue(LAW, "y:((((((l=1))))))&((((((l=1))))))?[[[[[[l]]]]]]", NONE);
        faultDue(LAW, "y:((((((l=1))))))?[[[[[[[l", 24);
        faultDue(LAW, "y:!!!!!!l=1&[[[[[[l]]]]]]=1?1;y:[[[[[[l]]]]]]", NONE);
        faultDue(LAW, "y:[[[[[[l]]]]]]=[[[[[[l]]]]]]?1", NONE);
        faultDue(LAW, "y:l=[[[[[[[", 10);
        faultDue(LAW, "y:l=1&((((((l=1))))))|!!!!!!l=1?1", NONE);
        faultDue(LAW, "y:l=1&(((((((", 12);
        faultDue(LAW, "y:l=1|!!!!!!!", 12);
        faultDue(LAW, "y:(l=1)|!!!!!!!", 14);
    }

    /** All rows of ! and (: six of them hold, a seventh of either sort, or a [, is wrong. */
    private static void sevenOf(int bits) {
        StringBuilder row = new StringBuilder("y:");
        StringBuilder close = new StringBuilder();
        for (int i = 0; i < 6; i++) {
            boolean not = (bits >> i & 1) != 0;
            row.append(not ? '!' : '(');
            close.append(not ? "" : ")");
        }
        faultDue(LAW, row + "l=1" + close + "?1", NONE);
        faultDue(LAW, row + ((bits >> 6 & 1) != 0 ? "!l=1" : "(l=1"), 8);
        faultDue(LAW, row + "[l]=1", 8);
        faultDue(LAW, row + "l=[l]", 10);
    }

    private static void ways() {
        Check.says("2 .. 12 digits (PLACES, in the order in which they were walked).");
        for (int n = 0; n <= 13; n++) {
            String way = "9876543210987".substring(0, n);
            faultDue(WAY, way, n < 2 ? n : n > 12 ? 12 : NONE);
            if (n >= 2 && n <= 12) {
                RoadWheels x = Check.county("p;p;r;w", way);
                due("how many of " + way, x.walked(0, NONE), n);
                for (int i = 0; i < n; i++) {
                    due("digit " + i + " of " + way, x.walked(0, i), way.charAt(i) - '0');
                }
            }
        }
        next(WAY, "", DIGITS + " ", "");
        next(WAY, "0", " ", DIGITS);
        next(WAY, "01", "", DIGITS + " ");
        next(WAY, "01234567890", "", DIGITS + " ");
        Check.says("a 13th digit of a WAY,");
        next(WAY, "012345678901", "", " ");
        faultDue(WAY, "0 1 2 3 4 5 6 7 8 9 0 1  2", 25);
        faultDue(WAY, "0123456789012345", 12);
        Check.says("(PLACES of a WAY that are not there are no FAULT, nor is the same one twice in a row.)");
        faultDue(WAY, "99", NONE);
        faultDue(WAY, "00", NONE);
        faultDue(WAY, "777777777777", NONE);
        RoadWheels x = Check.county("p;p;r;w");
        due("a WAY to where no PLACE is", Check.tell(x, WAY, "02"), 0);
        due("a WAY that stays", Check.tell(x, WAY, "0011"), 1);
    }

    // promises 4, 5

    private static void sorts() {
        Check.says("`int fault(int sort)`: The FAULT of the TAPE as a COUNTY (0), a LAW (1), a WAY (2).");
        due("a COUNTY", Check.fault(0, "p;p;r;w"), NONE);
        due("no LAW", Check.fault(1, "p;p;r;w"), 0);
        due("no WAY", Check.fault(2, "p;p;r;w"), 0);
        due("a LAW", Check.fault(1, "y:l"), NONE);
        due("no COUNTY", Check.fault(0, "y:l"), 0);
        due("a WAY", Check.fault(2, "01"), NONE);
        due("no LAW of digits", Check.fault(1, "01"), 0);
        Check.says("NONE: none. -2: no such sort.");
        for (int sort : new int[] {-1, 3, -2, Integer.MIN_VALUE, Integer.MAX_VALUE}) {
            due("fault(" + sort + ")", Check.fault(sort, "01"), -2);
            due("fault(" + sort + ") of none", Check.fault(sort, ""), -2);
        }
        RoadWheels x = new RoadWheels();
        Check.feed(x, "01");
        x.fault(2);
        due("the TAPE is left", x.count(5), 2);
    }

    private static void textTakes() {
        Check.says("`int text(int sort)`: The TAPE (empty then) is the COUNTY");
        RoadWheels x = new RoadWheels();
        Check.feed(x, "p;p;r;w");
        due("PLACES", x.text(0), 2);
        due("empty then", x.count(5), 0);
        Check.says("): how many PLACES; a LAW, a WAY: its number.");
        for (int places = 2; places <= 7; places++) {
            due("PLACES", Check.tell(x, 0, Check.times(places, "p", ";") + ";r;w"), places);
        }
        due("the first LAW", Check.tell(x, 1, "y:l"), 0);
        due("the first WAY", Check.tell(x, 2, "01"), 0);
        due("empty behind it", x.count(5), 0);
        Check.says("LAWS (4 at most) are TEXTS:");
        for (int i = 1; i < 4; i++) {
            due("LAW " + i, Check.tell(x, 1, "y:l+" + i), i);
        }
        due("a fifth LAW", Check.tell(x, 1, "y:l"), NONE);
        due("LAWS", x.count(3), 4);
        due("its TAPE is left", x.count(5), 3);
        Check.says("WAYS (4 at most) are TEXTS:");
        for (int i = 1; i < 4; i++) {
            due("WAY " + i, Check.tell(x, 2, "0" + i), i);
        }
        due("a fifth WAY", Check.tell(x, 2, "01"), NONE);
        due("WAYS", x.count(4), 4);
        due("its TAPE is left", x.count(5), 2);
        Check.says("NONE: a FAULT, no such sort, there are four.");
        due("a FAULT", x.text(0), NONE);
        due("still two bytes", x.count(5), 2);
        for (int sort : new int[] {-1, 3, Integer.MIN_VALUE, Integer.MAX_VALUE}) {
            due("text(" + sort + ")", x.text(sort), NONE);
            due("still two bytes", x.count(5), 2);
        }
        due("a COUNTY can be told behind four LAWS, four WAYS", Check.tell(x, 0, "p;p;p;r;w"), 3);
    }

    private static RoadWheels told(boolean another) {
        RoadWheels x = new RoadWheels();
        if (another) {
            Check.tell(x, 0, "sh3k60;pc9;pc9;pc9;ra1b2;rl9;rb2;w;ws2;ws1");
        }
        Check.tell(x, 1, "y:l+n");
        Check.tell(x, 1, "y:d+r+y+n");
        x.law(1);
        Check.tell(x, 2, "0010");
        Check.tell(x, 2, "210");
        x.flood(9);
        if (another) {
            x.puts(0, 0);
            x.puts(1, 1);
            x.days(50);
            x.bars(1);
            x.image();
            x.carries(2, 0);
            x.years(20, 7);
            x.seen(0, 1, 2, false);
            x.puts(9, 9);
        }
        Check.tell(x, 0, "sh9k7;pc1;pc2;ra1b0d8;w;ws1");
        return x;
    }

    private static void anotherCounty() {
        Check.says("(DAY 0; all that was of another one, SEEN, too, is gone but LAWS, which holds, WAYS, FLOOD, STATUS)");
        Look look = new Look();
        look.alike("another COUNTY was there", () -> told(true), () -> told(false), "status");
        look.alike("and a DAY behind it", () -> dayLater(told(true)), () -> dayLater(told(false)), "status");
        due("STATUS is left", told(true).status(0), 1);
        due("no ACT of the other one", told(true).undo(), NONE);
        due("no IMAGE of the other one", told(true).back(), NONE);
        RoadWheels x = told(true);
        x.image();
        due("a COUNTY with a FAULT", Check.tell(x, 0, "p;p"), NONE);
        due("the IMAGE is left then", x.back(), 0);
        x.image();
        due("the same COUNTY again", Check.tell(x, 0, "sh9k7;pc1;pc2;ra1b0d8;w;ws1"), 2);
        due("it has no IMAGE", x.back(), NONE);
    }

    private static RoadWheels dayLater(RoadWheels x) {
        x.puts(0, 0);
        x.days(1);
        return x;
    }

    // promise 11

    private static void walked() {
        Check.says("`int walked(int way, int i)`: The PLACE in a WAY (how many: i NONE).");
        RoadWheels x = new RoadWheels();
        due("no WAY", x.walked(0, NONE), NONE);
        Check.tell(x, 2, "90");
        due("how many", x.walked(0, NONE), 2);
        due("the first", x.walked(0, 0), 9);
        due("the last", x.walked(0, 1), 0);
        Check.says("NONE: no such ones. ## Promise 12: days");
        due("behind the last", x.walked(0, 2), NONE);
        due("i -2", x.walked(0, -2), NONE);
        due("i 12", x.walked(0, 12), NONE);
        due("WAY 1", x.walked(1, 0), NONE);
        due("how many of WAY 1", x.walked(1, NONE), NONE);
        due("WAY -1", x.walked(-1, 0), NONE);
        due("how many of WAY -1", x.walked(-1, NONE), NONE);
        due("far away", x.walked(Integer.MAX_VALUE, Integer.MIN_VALUE), NONE);
        Check.tell(x, 2, "012345678901");
        due("the twelfth", x.walked(1, 11), 1);
        due("a thirteenth", x.walked(1, 12), NONE);
    }

    public static void main(String[] args) {
        newObject();
        bytesOfNumbers();
        fullTape();
        ends();
        firstBytesAlone();
        longTexts();
        behindFaults();
        clauses();
        anyOrder();
        items();
        numbers();
        thirdDigits();
        wholeCounties();
        blanks();
        lawClauses();
        sixWithin();
        ways();
        sorts();
        textTakes();
        anotherCounty();
        walked();
        Check.finish();
    }
}
