/** LAWS, LONG, a DAY, what is done by hand, ACTS, the LOG, STATUS: each edge that the document names. */
public final class DayEdgesTest {
    private static final int NONE = Check.NONE;
    private static final String TWELVE = "ra0b1;ra0b1;ra0b1;ra0b1;ra0b1;ra0b1;ra0b1;ra0b1;ra0b1;ra0b1;ra0b1;ra0b1";

    private static void due(String what, long got, long want) {
        Check.due(what, got, want);
    }

    // WORTH

    /** A SUM is told to be worth what another, plainer one is: the ROAD is 2 LONG then. */
    private static void worthDue(String sum, String value) {
        RoadWheels x = Check.lawful("y:" + sum + "=" + value + "?2;y:3", "p;pc5;rl3d7;w");
        due(sum + " is " + value, x.road(0, 4), 2);
    }

    private static void holdsDue(String condition, boolean holds) {
        RoadWheels x = Check.lawful("y:" + condition + "?2;y:3", "p;pc5;rl3d7;w");
        due(condition + " holds", x.road(0, 4), holds ? 2 : 3);
    }

    private static void longDue(String law, int want) {
        due("LONG by " + law, Check.lawful(law, "p;pc5;rl3d7;w").road(0, 4), want);
    }

    private static void worths() {
        Check.says("Behind each sign numbers are within -1,000,000 .. 1,000,000;");
        String million = "[9999*100+100]";
        worthDue("1000*1000", million);
        worthDue("999*1001", "[9999*100+99]");
        worthDue("1001*1000", million);
        worthDue("9999*100+99+1", million);
        worthDue("9999*100+99+2", million);
        worthDue("9999*9999*9999/1000", "1000");
        worthDue("9999*9999/9999", "100");
        worthDue(million + "+1-1", "[9999*100+99]");
        worthDue(million + "+9999-9999", "[9999*100+100-9999]");
        String below = "[0-9999*100-100]";
        worthDue("[0-1000]*1000", below);
        worthDue("[0-999]*1001", "[0-9999*100-99]");
        worthDue("[0-1001]*1000", below);
        worthDue(below + "-1", below);
        worthDue(below + "-1+1", "[0-9999*100-99]");
        worthDue("0-" + million + "-9999", below);
        worthDue(below + "*" + below, million);
        worthDue(below + "*" + million, below);
        worthDue(below + "/[0-1]", million);
        worthDue("[9999*9999]-[9999*100+100]", "0");
        worthDue(million + "*2/2", "[5000*100]");
        Check.says("/ cuts towards 0, by 0 gives 0.");
        worthDue("7/2", "3");
        worthDue("8/2", "4");
        worthDue("[0-7]/2", "0-3");
        worthDue("7/[0-2]", "0-3");
        worthDue("[0-7]/[0-2]", "3");
        worthDue("[0-1]/2", "0");
        worthDue("1/2", "0");
        worthDue("9999/1", "9999");
        worthDue("5/0", "0");
        worthDue("[0-5]/0", "0");
        worthDue("0/0", "0");
        worthDue("7+5/[l-l]", "7");
        worthDue("5/0/0*3", "0");
    }

    private static void signs() {
        Check.says("(or has none), 0 without.");
        longDue("y:l=3?7", 7);
        longDue("y:l=4?7", 1);
        longDue("y:l=4?7;y:l=5?8", 1);
        longDue("y:l=4?7;y:9", 9);
        Check.says("WORTH: the SUM of the first CLAUSE whose CONDITION holds");
        longDue("y:l=3?7;y:l=3?8;y:9", 7);
        longDue("y:l=4?7;y:l=3?8;y:9", 8);
        longDue("y:l=4?7;y:9;y:l=3?8", 9);
        longDue("y:6;y:9", 6);
        worthDue("9-4-3", "2");
        worthDue("9-4+3", "8");
        worthDue("100/10/5", "2");
        worthDue("100/10*5", "50");
        worthDue("2*7/4", "3");
        worthDue("2+3*4", "14");
        worthDue("[2+3]*4", "20");
        worthDue("20-[3-1]", "18");
        holdsDue("l=3", true);
        holdsDue("l=2", false);
        holdsDue("l<4", true);
        holdsDue("l<3", false);
        holdsDue("l>2", true);
        holdsDue("l>3", false);
        holdsDue("!l=3", false);
        holdsDue("!!l=3", true);
        holdsDue("l=3&d=7", true);
        holdsDue("l=3&d=6", false);
        holdsDue("l=2|d=7", true);
        holdsDue("l=2|d=6", false);
        holdsDue("l=3|d=6&d=5", true);
        holdsDue("d=6&d=5|l=3", true);
        holdsDue("(l=3|d=6)&d=5", false);
        holdsDue("!l=2&d=6", false);
        holdsDue("!(l=2&d=6)", true);
        holdsDue("!l=2|l=2", true);
        holdsDue("l<4&d=7", true);
        holdsDue("l>2&d=7", true);
        holdsDue("d=7&l<4&l>2&d>6", true);
        holdsDue("!l<4", false);
        holdsDue("!l<3", true);
        holdsDue("!l>2", false);
        holdsDue("!l>3", true);
        holdsDue("!(l=3&d=7)", false);
        holdsDue("!(l=2|d=7)", false);
    }

    // LONG

    private static void heldLong() {
        Check.says("LONG of a ROAD: WORTH by the LAW that holds, held within 1 .. 24");
        int[] worth = {0, 1, 2, 23, 24, 25, 9999};
        int[] held = {1, 1, 2, 23, 24, 24, 24};
        for (int i = 0; i < worth.length; i++) {
            longDue("y:" + worth[i], held[i]);
            longDue("y:0-" + worth[i], 1);
        }
        longDue("y:9999*9999", 24);
        longDue("y:0-9999*9999", 1);
        Check.says("(none at first: LENGTH, and how ROUGH by 4, cut);");
        for (int rough = 0; rough < 10; rough++) {
            for (int length = 1; length < 10; length++) {
                RoadWheels x = Check.county("p;p;rl" + length + "d" + rough + ";w");
                due("LONG of " + length + ", " + rough, x.road(0, 4), length + (rough < 4 ? 0 : rough < 8 ? 1 : 2));
            }
        }
        due("none at first", Check.county("p;p;r;w").count(6), NONE);
        RoadWheels y = Check.county("p;p;rl9d9;w");
        Check.tell(y, 1, "y:2");
        due("told, but it does not hold", y.road(0, 4), 11);
        y.law(0);
        due("it holds at once", y.road(0, 4), 2);
        y.law(NONE);
        due("and no more", y.road(0, 4), 11);
    }

    private static void letters() {
        Check.says("letters: l LENGTH, d how ROUGH,");
        for (int n = 0; n < 10; n++) {
            due("d", Check.lawful("y:d+5", "p;p;rd" + n + ";w").road(0, 4), n + 5);
            if (n > 0) {
                due("l", Check.lawful("y:l", "p;p;rl" + n + ";w").road(0, 4), n);
            }
        }
        Check.says("n how often it was GONE ahead of this DAY,");
        RoadWheels x = Check.lawful("y:n+1", "p;p;p;r;rb2;w", "0101");
        x.puts(0, 0);
        due("ahead of its first DAY", x.road(0, 4), 1);
        x.days(1);
        due("it was gone three times at 1", x.road(0, 5), 3);
        due("behind it", x.road(0, 4), 4);
        due("not the other ROAD", x.road(1, 4), 1);
        Check.says("c CUSTOMERS of both its PLACES together,");
        for (int one = 0; one < 10; one += 3) {
            for (int other = 0; other < 10; other += 3) {
                String county = "pc" + one + ";pc9;pc" + other + ";rb2;w";
                due("c of " + county, Check.lawful("y:c+1", county).road(0, 4), one + other + 1);
            }
        }
        Check.says("r how many ROADS are closed now,");
        RoadWheels y = Check.lawful("y:r+1", "p;p;" + TWELVE + ";w");
        for (int closed = 0; closed <= 12; closed++) {
            due("r of " + closed, y.road(11, 4), closed + 1);
            y.bars(closed);
        }
        y.bars(3);
        due("open again", y.road(3, 4), 12);
        Check.says("y the DAY modulo 100.");
        RoadWheels z = Check.lawful("y:y-80", "p;p;r;w");
        RoadWheels low = Check.lawful("y:y+1", "p;p;r;w");
        due("DAY 0", low.road(0, 4), 1);
        low.days(1);
        due("DAY 1", low.road(0, 4), 2);
        z.days(60);
        z.days(39);
        due("DAY 99", z.road(0, 4), 19);
        z.days(1);
        due("DAY 100", z.road(0, 4), 1);
        low.days(60);
        low.days(39);
        due("DAY 100 is 0", low.road(0, 4), 1);
        low.days(1);
        due("DAY 101 is 1", low.road(0, 4), 2);
        due("DAY 999 is 99", lastDay(z).road(0, 4), 19);
    }

    private static RoadWheels lastDay(RoadWheels x) {
        while (x.count(7) < 999) {
            x.days(Math.min(60, 999 - x.count(7)));
        }
        return x;
    }

    // a DAY

    private static void lastDays() {
        Check.says("A DAY (0 at first; 999 at most: none goes by then):");
        RoadWheels x = Check.county("p;p;r;w", "01");
        due("at first", x.count(7), 0);
        for (int i = 0; i < 16; i++) {
            x.days(60);
        }
        due("960", x.count(7), 960);
        due("40 more would be 1000", x.days(40), NONE);
        due("none of them went", x.count(7), 960);
        due("STATUS 4", x.status(4), 1);
        due("38 more", x.days(38), 998);
        due("two more", x.days(2), NONE);
        due("one more", x.days(1), 999);
        x.puts(0, 0);
        due("none goes by then", x.days(1), NONE);
        due("nor 60", x.days(60), NONE);
        due("it stands", Check.wheels(x, 0, 0), 0);
        due("STATUS 4 then", x.status(4), 4);
        Check.says("The DAY is one later.");
        RoadWheels y = Check.county("p;p;r;w");
        for (int day = 1; day < 5; day++) {
            due("the DAY", y.days(1), day);
        }
    }

    private static void hours() {
        Check.says("each SET that has a WAY, by numbers, goes from HOUR 0:");
        RoadWheels x = Check.county("sh8k99;p;p;p;rl4d0;ra1b2l4d0;w;w;w;w", "012", "0121");
        x.puts(0, 0);
        x.puts(1, 1);
        x.puts(3, 0);
        x.days(1);
        due("set 0", Check.wheels(x, 0, 0), 2);
        due("set 1 has HOURS of its own", Check.wheels(x, 1, 0), 2);
        due("set 2 has no WAY", Check.wheels(x, 2, 0), 0);
        due("set 3", Check.wheels(x, 3, 0), 2);
        x.days(1);
        due("from HOUR 0 again", Check.wheels(x, 1, 0), 1);
        Check.says("if HOURS do for it (HOURS gone that DAY and LONG, HOURS a DAY at most):");
        for (int hours = 7; hours <= 9; hours++) {
            RoadWheels y = Check.county("sh" + hours + "k99;p;p;p;rl4d0;ra1b2l4d0;w", "012");
            y.puts(0, 0);
            y.days(1);
            due("behind a DAY of " + hours, Check.wheels(y, 0, 0), hours < 8 ? 1 : 2);
        }
        for (int hours = 1; hours <= 24; hours++) {
            goesAlone(hours, hours);
            if (hours < 24) {
                goesAlone(hours, hours + 1);
                goesAlone(hours + 1, hours);
            }
        }
        Check.says("else it goes no farther that DAY.");
        RoadWheels z = Check.county("sh5k99;p;p;p;rl4d0;ra1b2l3d0;ra2b0l1d0;w", "0120");
        z.puts(0, 0);
        z.days(1);
        due("it stops at 1", Check.wheels(z, 0, 0), 1);
        due("two PLACES are behind it", Check.wheels(z, 0, 2), 2);
        z.days(1);
        due("the next DAY it goes on", Check.wheels(z, 0, 0), 0);
    }

    private static void goesAlone(int hours, int length) {
        RoadWheels x = Check.lawful("y:" + length, "sh" + hours + ";p;p;r;w", "01");
        x.puts(0, 0);
        x.days(3);
        due("a ROAD " + length + " LONG in " + hours, Check.wheels(x, 0, 0), length <= hours ? 1 : 0);
        due("GONE", x.road(0, 5), length <= hours ? 1 : 0);
    }

    private static void stays() {
        Check.says("if that is where it is, it CALLS there (no HOUR gone);");
        RoadWheels x = Check.county("sh4;p;p;rl4d0;w", "00011100");
        x.puts(0, 0);
        x.days(1);
        due("two CALLS at 0", x.spot(0, 1), 2);
        due("three CALLS at 1, the HOURS being gone", x.spot(1, 1), 3);
        due("CALLS of the DAY", x.log(0, 0), 5);
        due("six PLACES are behind it", Check.wheels(x, 0, 2), 6);
        x.days(1);
        due("then it goes back", x.spot(0, 1), 4);
        due("and has gone its WAY", Check.wheels(x, 0, 1), NONE);
        Check.says("as long as there is a next PLACE in its WAY:");
        RoadWheels y = Check.county("sh24;p;p;rl1d0;w", "010101010101");
        y.puts(0, 0);
        y.days(1);
        due("all eleven", y.road(0, 5), 11);
        due("its last PLACE", Check.wheels(y, 0, 0), 1);
        Check.says("A SET that has come to the last PLACE of its WAY has none any more.");
        due("it has none", Check.wheels(y, 0, 1), NONE);
        due("none is behind it", Check.wheels(y, 0, 2), 0);
        y.days(5);
        due("it stays there", Check.wheels(y, 0, 0), 1);
        due("without a CALL", y.log(0, 0), 0);
        RoadWheels z = Check.county("sh3;p;p;p;rl3d0;ra1b2l3d0;w", "012");
        z.puts(0, 0);
        z.days(1);
        due("one ahead of its last it has its WAY", Check.wheels(z, 0, 1), 0);
        z.days(1);
        due("at its last it has none", Check.wheels(z, 0, 1), NONE);
    }

    private static void whichRoad() {
        Check.says("else by the ROAD there is between both that is open and least LONG (of several the lowest;");
        String county = "sk99;p;p;p;rb2l1;ra1b0l5d0;rl3d0;ra1b0l3d0;ra1b2l1;w";
        int[][] closes = {{}, {2}, {2, 3}, {2, 3, 1}};
        int[] goneBy = {2, 3, 1, NONE};
        for (int i = 0; i < closes.length; i++) {
            RoadWheels x = Check.county(county, "01");
            x.puts(0, 0);
            for (int road : closes[i]) {
                x.bars(road);
            }
            x.days(1);
            for (int road = 0; road < 5; road++) {
                due("GONE of ROAD " + road, x.road(road, 5), road == goneBy[i] ? 1 : 0);
            }
            due("where it is", Check.wheels(x, 0, 0), goneBy[i] == NONE ? 0 : 1);
        }
        RoadWheels none = Check.county("sk99;p;p;p;r;ra1b2;w", "02", "03", "09");
        for (int way = 0; way < 3; way++) {
            none.puts(0, way);
            none.days(2);
            due("no ROAD between both", Check.wheels(none, 0, 2), 1);
        }
        Check.says("as LONG as the DAY began),");
        RoadWheels y = Check.lawful("y:l+n*9", "sh9k99;p;p;rl1;rl5;w;w", "0101010");
        y.puts(0, 0);
        y.puts(1, 0);
        y.days(1);
        due("all by the same ROAD", y.road(0, 5), 12);
        due("none by the other", y.road(1, 5), 0);
        due("LONG then", y.road(0, 4), 24);
    }

    private static RoadWheels goneTimes(int times) {
        RoadWheels x = Check.lawful("y:n-990", "sh24k99;p;p;rl1d0;w", "01010101010", "010101010", "01", "10");
        for (int gone = 0; gone < 990; gone += 10) {
            x.puts(0, 0);
            x.law(NONE);
            x.days(1);
        }
        x.law(0);
        for (int way = 1; way <= times; way++) {
            x.puts(0, way);
            x.days(1);
        }
        return x;
    }

    private static void counted() {
        Check.says("that ROAD is GONE once more (999 at most; from the next DAY on),");
        int[] gone = {990, 998, 999, 999};
        for (int times = 0; times < gone.length; times++) {
            RoadWheels x = goneTimes(times);
            due("GONE", x.road(0, 5), gone[times]);
            due("LONG by it", x.road(0, 4), Math.max(1, gone[times] - 990));
        }
        RoadWheels undone = goneTimes(2);
        undone.undo();
        due("undone", undone.road(0, 5), 998);
        Check.says("CALLS of a PLACE: how often a SET called there (999 at most).");
        RoadWheels y = Check.county("sk99;p;p;rl1d0;w", "000000000000", "000000000", "00");
        for (int calls = 0; calls < 990; calls += 11) {
            due("CALLS", y.spot(0, 1), calls);
            y.puts(0, 0);
            y.days(1);
        }
        int[] calls = {998, 999, 999};
        for (int i = 0; i < calls.length; i++) {
            y.puts(0, Math.min(2, i + 1));
            y.days(1);
            due("CALLS then", y.spot(0, 1), calls[i]);
            due("CALLS of that DAY", y.log(0, 0), i == 0 ? 8 : 1);
        }
        due("none elsewhere", y.spot(1, 1), 0);
        Check.says("it CALLS there;");
        RoadWheels z = Check.county("sh24k9;p;p;p;r;ra1b2;w", "0121");
        z.puts(0, 0);
        z.days(1);
        due("CALLS at 0, 1, 2", z.spot(0, 1) * 100 + z.spot(1, 1) * 10 + z.spot(2, 1), 21);
    }

    /** So many COINS ahead of a DAY with so many CALLS, at a PLACE with so many CUSTOMERS. */
    private static int coinsBehind(int coins, int calls, int customers) {
        RoadWheels x = Check.county("sk3;pc" + customers + ";p;r;w", Check.times(calls + 1, "0", ""));
        x.puts(0, 0);
        for (int left = coins; left > 0; left -= 50) {
            x.give(Math.min(50, left));
        }
        x.days(1);
        return x.rule(1);
    }

    private static void coins() {
        Check.says("COINS one more for each CALL at a PLACE with CUSTOMERS (999 at most).");
        due("without CUSTOMERS", coinsBehind(5, 3, 0), 5);
        due("with one", coinsBehind(5, 3, 1), 8);
        due("with nine", coinsBehind(5, 3, 9), 8);
        due("from none", coinsBehind(0, 1, 1), 1);
        due("997 and 1", coinsBehind(997, 1, 1), 998);
        due("998 and 1", coinsBehind(998, 1, 1), 999);
        due("999 and 1", coinsBehind(999, 1, 1), 999);
        due("988 and 11", coinsBehind(988, 11, 2), 999);
        due("989 and 11", coinsBehind(989, 11, 2), 999);
        Check.says("`int rule(int what)`: 0 HOURS a DAY, 1 COINS now.");
        RoadWheels x = Check.county("sh24k0;p;p;r;w");
        due("HOURS", x.rule(0), 24);
        due("COINS", x.rule(1), 0);
        x.give(7);
        due("COINS now", x.rule(1), 7);
        Check.says("1 COINS now. NONE: no COUNTY, no such what.");
        due("rule(2)", x.rule(2), NONE);
        due("rule(-1)", x.rule(-1), NONE);
        due("no COUNTY", new RoadWheels().rule(0), NONE);
        due("no COUNTY, COINS", new RoadWheels().rule(1), NONE);
    }

    // the LOG

    private static RoadWheels floods(int days, int[] closed) {
        RoadWheels x = Check.county("sk99;p;p;" + TWELVE + ";w");
        x.flood(9);
        for (int day = 1; day <= days; day++) {
            x.years(1, day * 77L);
            closed[day] = x.most(6);
        }
        return x;
    }

    private static void logs() {
        Check.says("The LOG of the DAY: how many CALLS there were, SETS (bits) that have a WAY still,"
            + " ROADS (bits) that are closed (the latest 60).");
        RoadWheels x = Check.county("sh1k99;p;p;" + TWELVE + ";w;w;w;w", "000000000000", "000001");
        for (int set = 0; set < 4; set++) {
            x.puts(set, set % 2);
        }
        x.bars(11);
        x.bars(0);
        x.days(1);
        due("CALLS", x.log(0, 0), 11 + 4 + 11 + 4);
        due("SETS", x.log(0, 1), 10);
        due("ROADS", x.log(0, 2), 2049);
        int[] closed = new int[121];
        for (int days : new int[] {1, 59, 60, 61, 105}) {
            RoadWheels y = floods(days, closed);
            int kept = Math.min(60, days);
            due("how long", y.count(10), kept);
            for (int i = 0; i < kept; i++) {
                due("log(" + i + ", 2) of " + days, y.log(i, 2), closed[days - i]);
            }
            due("behind them", y.log(kept, 2), NONE);
        }
        RoadWheels z = floods(105, closed);
        for (int i = 0; i < 40; i++) {
            z.undo();
        }
        due("DAY 65", z.count(7), 65);
        for (int i = 0; i < 60; i++) {
            due("log(" + i + ", 2) undone", z.log(i, 2), closed[65 - i]);
        }
        due("60 are kept", z.log(60, 2), NONE);
        Check.says("`int log(int i, int what)`: LOG, the latest (i 0), the one ahead of it (1) ..:"
            + " 0 CALLS, 1 SETS (bits), 2 closed ROADS (bits). NONE: no such ones.");
        due("log(-1, 0)", z.log(-1, 0), NONE);
        due("log(0, 3)", z.log(0, 3), NONE);
        due("log(0, -1)", z.log(0, -1), NONE);
        due("of none", Check.county("p;p;r;w").log(0, 0), NONE);
        due("no COUNTY", new RoadWheels().log(0, 0), NONE);
        due("far away", z.log(Integer.MAX_VALUE, Integer.MIN_VALUE), NONE);
    }

    // by hand

    private static void daysGo() {
        Check.says("`int days(int n)`: DAYS (1 .. 60): the DAY.");
        due("days(1)", Check.county("p;p;r;w").days(1), 1);
        due("days(60)", Check.county("p;p;r;w").days(60), 60);
        Check.says("By hand: DAYS go.");
        RoadWheels x = Check.county("sh4k9;p;p;p;r;ra1b2;w", "012");
        x.puts(0, 0);
        x.days(2);
        due("each of them", Check.wheels(x, 0, 0), 2);
        Check.says("the DAY. NONE: no COUNTY (STATUS 0), out of bounds (1), beyond 999 (4).");
        RoadWheels none = new RoadWheels();
        due("no COUNTY", none.days(1), NONE);
        due("no COUNTY, out of bounds", none.days(0), NONE);
        statusDue(none, 2, 0, 0, 0, 0);
        for (int n : new int[] {0, -1, 61, Integer.MIN_VALUE, Integer.MAX_VALUE}) {
            due("days(" + n + ")", x.days(n), NONE);
        }
        statusDue(x, 0, 5, 0, 0, 0);
        lastDay(x);
        due("days(61) at 999", x.days(61), NONE);
        due("days(0) at 999", x.days(0), NONE);
        due("days(1) at 999", x.days(1), NONE);
        statusDue(x, 0, 7, 0, 0, 1);
    }

    private static void statusDue(RoadWheels x, int... want) {
        for (int what = 0; what < 5; what++) {
            due("status(" + what + ")", x.status(what), want[what]);
        }
    }

    private static void put() {
        Check.says("A SET is put to a WAY that begins where it is (3 COINS;");
        for (int coins = 0; coins < 6; coins++) {
            RoadWheels x = Check.county("sk" + coins + ";p;p;r;w", "01");
            due("puts with " + coins, x.puts(0, 0), coins < 3 ? NONE : 2);
            due("COINS then", x.rule(1), coins < 3 ? coins : coins - 3);
            due("its WAY", Check.wheels(x, 0, 1), coins < 3 ? NONE : 0);
            statusDue(x, 0, 0, 0, coins < 3 ? 1 : 0, 0);
        }
        Check.says("it stands at its first PLACE then, which is no CALL;");
        RoadWheels x = Check.county("sh4k99;p;p;p;r;ra1b2;w;ws2", "0120", "121", "00", "92");
        due("how many PLACES it has", x.puts(0, 0), 4);
        due("one is behind it", Check.wheels(x, 0, 2), 1);
        due("no CALL", x.spot(0, 1), 0);
        Check.says("one that it had is gone).");
        x.days(1);
        due("it is at 1", Check.wheels(x, 0, 0), 1);
        due("put to another", x.puts(0, 1), 3);
        due("its WAY", Check.wheels(x, 0, 1), 1);
        due("one is behind it", Check.wheels(x, 0, 2), 1);
        x.days(2);
        due("it goes that one", Check.wheels(x, 0, 0), 1);
        due("and has gone it", Check.wheels(x, 0, 1), NONE);
        Check.says("`int puts(int set, int way)`: A SET is put to a WAY: how many PLACES it has.");
        due("the same again", x.puts(0, 1), 3);
        Check.says("how many PLACES it has. NONE: no such SET (STATUS 0), no such WAY (1),"
            + " it does not begin there (2), too few COINS (3).");
        due("set 2", x.puts(2, 0), NONE);
        due("set -1", x.puts(-1, 0), NONE);
        due("set 2, WAY 4", x.puts(2, 4), NONE);
        statusDue(x, 3, 0, 0, 0, 0);
        due("WAY 4", x.puts(0, 4), NONE);
        due("WAY -1", x.puts(0, -1), NONE);
        statusDue(x, 3, 2, 0, 0, 0);
        due("it begins at 0", x.puts(0, 0), NONE);
        due("it begins at 9", x.puts(1, 3), NONE);
        statusDue(x, 3, 2, 2, 0, 0);
        RoadWheels poor = Check.county("sk2;p;p;r;w", "01", "10");
        due("no such SET, too few COINS", poor.puts(1, 0), NONE);
        due("no such WAY, too few COINS", poor.puts(0, 2), NONE);
        due("not from there, too few COINS", poor.puts(0, 1), NONE);
        due("too few COINS", poor.puts(0, 0), NONE);
        statusDue(poor, 1, 1, 1, 1, 0);
    }

    private static void carry() {
        Check.says("A SET is CARRIED to another PLACE (2 COINS; it has no WAY then).");
        for (int coins = 0; coins < 5; coins++) {
            RoadWheels x = Check.county("sk" + coins + ";p;p;r;ws1");
            due("carries with " + coins, x.carries(0, 0), coins < 2 ? NONE : 1);
            due("COINS then", x.rule(1), coins < 2 ? coins : coins - 2);
            due("where it is", Check.wheels(x, 0, 0), coins < 2 ? 1 : 0);
            statusDue(x, 0, 0, 0, coins < 2 ? 1 : 0, 0);
        }
        RoadWheels x = Check.county("sk99;p;p;p;r;w;ws2", "01", "20");
        x.puts(0, 0);
        x.puts(1, 1);
        Check.says("`int carries(int set, int place)`: CARRIED: where it was.");
        due("where it was", x.carries(1, 1), 2);
        due("no WAY then", Check.wheels(x, 1, 1), NONE);
        due("none behind it", Check.wheels(x, 1, 2), 0);
        due("the other has its WAY", Check.wheels(x, 0, 1), 0);
        due("no CALL", x.spot(1, 1), 0);
        Check.says("CARRIED: where it was. NONE: no such SET (STATUS 0), no such PLACE (1), it is there (2), too few COINS (3).");
        due("set 2", x.carries(2, 0), NONE);
        due("set -1", x.carries(-1, 0), NONE);
        due("set 2, PLACE 3", x.carries(2, 3), NONE);
        statusDue(x, 3, 0, 0, 0, 0);
        due("PLACE 3", x.carries(0, 3), NONE);
        due("PLACE -1", x.carries(0, -1), NONE);
        due("PLACE 2", x.carries(0, 2), 0);
        statusDue(x, 3, 2, 0, 0, 0);
        due("it is there", x.carries(0, 2), NONE);
        statusDue(x, 3, 2, 1, 0, 0);
        RoadWheels poor = Check.county("sk1;p;p;r;w");
        due("no such SET, too few COINS", poor.carries(1, 1), NONE);
        due("no such PLACE, too few COINS", poor.carries(0, 2), NONE);
        due("it is there, too few COINS", poor.carries(0, 0), NONE);
        due("too few COINS", poor.carries(0, 1), NONE);
        statusDue(poor, 1, 1, 1, 1, 0);
    }

    private static void bar() {
        Check.says("A ROAD is closed, or open again (a COIN).");
        RoadWheels x = Check.county("sk2;p;p;" + TWELVE + ";w");
        due("closed", x.bars(11), 1);
        due("COINS", x.rule(1), 1);
        due("it is", x.road(11, 6), 1);
        due("no other", x.most(6), 2048);
        due("open again", x.bars(11), 0);
        due("COINS then", x.rule(1), 0);
        Check.says("`int bars(int road)`: A ROAD is closed, open again: whether it is closed then (1, 0)."
            + " NONE: no such ROAD (STATUS 0), no COIN (3).");
        due("no COIN", x.bars(11), NONE);
        due("still open", x.most(6), 0);
        statusDue(x, 0, 0, 0, 1, 0);
        due("no such ROAD, no COIN", x.bars(12), NONE);
        due("ROAD -1", x.bars(-1), NONE);
        statusDue(x, 2, 0, 0, 1, 0);
        x.give(1);
        due("the first ROAD", x.bars(0), 1);
        due("ROAD 1 of one", Check.county("p;p;r;w").bars(1), NONE);
    }

    private static void give() {
        Check.says("COINS are given (1 .. 50; 999 at most).");
        RoadWheels x = Check.county("sk99;p;p;r;w");
        due("give(1)", x.give(1), 100);
        due("give(50)", x.give(50), 150);
        for (int coins = 150; coins < 950; coins += 50) {
            x.give(50);
        }
        due("950", x.rule(1), 950);
        Check.says("`int give(int n)`: COINS are given: COINS then. NONE: no COUNTY (STATUS 0), out of bounds, above 999 (1).");
        due("1000", x.give(50), NONE);
        due("999", x.give(49), 999);
        due("1000 then", x.give(1), NONE);
        due("still 999", x.rule(1), 999);
        statusDue(x, 0, 2, 0, 0, 0);
        RoadWheels y = Check.county("p;p;r;w");
        for (int n : new int[] {0, -1, 51, Integer.MIN_VALUE, Integer.MAX_VALUE}) {
            due("give(" + n + ")", y.give(n), NONE);
        }
        statusDue(y, 0, 5, 0, 0, 0);
        RoadWheels none = new RoadWheels();
        due("no COUNTY", none.give(1), NONE);
        due("no COUNTY, out of bounds", none.give(0), NONE);
        statusDue(none, 2, 0, 0, 0, 0);
    }

    // ACTS and STATUS

    private static RoadWheels begun() {
        RoadWheels x = Check.lawful("y:4+n/9+r", "sh9k99;p;p;pc0;p;r;ra1b2;ra2b3;rb3;rb2;w;ws1", "0101", "1230", "01230123", "30");
        x.puts(1, 1);
        x.days(2);
        x.image();
        x.seen(0, 1, 1, true);
        return x;
    }

    private static void act(RoadWheels x, int i) {
        switch (i % 6) {
            case 0:
                x.give(1 + i);
                break;
            case 1:
                x.bars(i % 5);
                break;
            case 2:
                x.carries(0, Check.wheels(x, 0, 0) == 0 ? 1 : 0);
                break;
            case 3:
                x.days(1);
                break;
            case 4:
                x.years(1, i * 12345L);
                break;
            default:
                x.puts(0, Check.wheels(x, 0, 0) == 0 ? 2 : 1);
                break;
        }
    }

    /** ACTS 0 .. n - 1, so many UNDONE, then ACTS m, m - 1, .., so many UNDONE. */
    private static RoadWheels acted(int n, int undone, int m, int undoneThen) {
        RoadWheels x = begun();
        for (int i = 0; i < n; i++) {
            act(x, i);
        }
        for (int i = 0; i < undone; i++) {
            x.undo();
        }
        for (int i = m; i > 0; i--) {
            act(x, i);
        }
        for (int i = 0; i < undoneThen; i++) {
            x.undo();
        }
        return x;
    }

    private static void acts() {
        Check.says("All these (each DAY) are ACTS: the latest 40 can be UNDONE one by one (LOG, too).");
        for (int n = 0; n < 38; n++) {
            due("ACTS behind " + n, acted(n, 0, 0, 0).count(11), n + 3);
        }
        for (int n = 36; n < 42; n++) {
            due("40 at most", acted(n, 0, 0, 0).count(11), Math.min(40, n + 3));
        }
        RoadWheels x = Check.county("p;p;r;w");
        x.days(3);
        due("each DAY", x.count(11), 3);
        x.years(4, 1);
        due("each DAY of YEARS", x.count(11), 7);
        x.days(32);
        due("39", x.count(11), 39);
        x.days(1);
        due("40", x.count(11), 40);
        x.days(1);
        due("40 still", x.count(11), 40);
        Look look = new Look();
        for (int n = 1; n <= 13; n++) {
            int all = n;
            look.alike("ACT " + n + " is UNDONE", () -> acted(all, 1, 0, 0), () -> acted(all - 1, 0, 0, 0));
        }
        for (int n = 38; n <= 48; n += 5) {
            int all = n;
            int most = Math.min(40, n);
            look.alike("UNDONE of " + n, () -> acted(all, most, 0, 0), () -> acted(all - most, 0, 0, 0), "count(11)");
            look.alike("39 of " + n, () -> acted(all, most - 1, 0, 0), () -> acted(all - most + 1, 0, 0, 0), "count(11)");
        }
        look.alike("then others", () -> acted(45, 3, 5, 0), () -> acted(42, 0, 5, 0), "count(11)");
        look.alike("others UNDONE", () -> acted(45, 3, 5, 2), () -> acted(42, 0, 5, 2), "count(11)");
        look.alike("all others UNDONE", () -> acted(45, 3, 5, 5), () -> acted(42, 0, 0, 0), "count(11)");
        look.alike("and one more", () -> acted(45, 3, 5, 6), () -> acted(41, 0, 0, 0), "count(11)");
        look.alike("all that can be", () -> acted(45, 3, 5, 40), () -> acted(7, 0, 0, 0), "count(11)");
    }

    private static void undo() {
        Check.says("`int undo()`: The latest ACT is UNDONE: how many still can be. NONE: none.");
        due("no COUNTY", new RoadWheels().undo(), NONE);
        due("none yet", Check.county("p;p;r;w").undo(), NONE);
        RoadWheels x = acted(45, 0, 0, 0);
        for (int left = 39; left >= 0; left--) {
            due("how many still", x.undo(), left);
        }
        due("none", x.undo(), NONE);
        due("none is left", x.count(11), 0);
        act(x, 0);
        due("one again", x.undo(), 0);
        RoadWheels y = Check.county("sk1;p;p;r;w", "01");
        y.puts(0, 0);
        y.carries(0, 0);
        y.bars(1);
        y.give(0);
        y.days(0);
        y.years(0, 1);
        due("what was refused is no ACT", y.undo(), NONE);
    }

    private static void status() {
        Check.says("STATUS: how many ACTS were refused as there was no such one (0),");
        RoadWheels x = Check.county("sk4;p;p;r;w", "01", "10");
        statusDue(x, 0, 0, 0, 0, 0);
        x.puts(1, 0);
        x.carries(1, 0);
        x.bars(1);
        statusDue(x, 3, 0, 0, 0, 0);
        RoadWheels none = new RoadWheels();
        none.puts(0, 0);
        none.carries(0, 0);
        none.bars(0);
        none.give(1);
        none.days(1);
        statusDue(none, 5, 0, 0, 0, 0);
        Check.says("out of bounds, no such WAY, PLACE (1),");
        x.puts(0, 2);
        x.carries(0, 2);
        x.give(51);
        x.days(61);
        statusDue(x, 3, 4, 0, 0, 0);
        Check.says("it is there, the WAY does not begin there (2),");
        x.carries(0, 0);
        x.puts(0, 1);
        statusDue(x, 3, 4, 2, 0, 0);
        Check.says("too few COINS (3),");
        x.puts(0, 0);
        x.puts(0, 0);
        x.carries(0, 1);
        x.bars(0);
        x.bars(0);
        statusDue(x, 3, 4, 2, 3, 0);
        Check.says("beyond the last DAY (4);");
        lastDay(x);
        x.days(1);
        statusDue(x, 3, 4, 2, 3, 1);
        Check.says("of several the first;");
        x.days(0);
        x.days(61);
        x.carries(1, 9);
        x.carries(0, 9);
        x.puts(9, 9);
        x.puts(0, 9);
        statusDue(x, 5, 8, 2, 3, 1);
        Check.says("not UNDONE.");
        x.image();
        x.undo();
        x.undo();
        statusDue(x, 5, 8, 2, 3, 1);
        x.back();
        statusDue(x, 5, 8, 2, 3, 1);
        Check.tell(x, 0, "p;p;r;w");
        statusDue(x, 5, 8, 2, 3, 1);
        Check.says("`int status(int what)`: STATUS. NONE: no such what.");
        due("status(5)", x.status(5), NONE);
        due("status(-1)", x.status(-1), NONE);
        due("far away", x.status(Integer.MAX_VALUE), NONE);
        due("no COUNTY", new RoadWheels().status(4), 0);
        due("no COUNTY, status(5)", new RoadWheels().status(5), NONE);
    }

    // promises 7, 8, 9, 10

    private static void roads() {
        Check.says("`int road(int road, int what)`: Of a ROAD: 0, 1 its PLACES, 2 LENGTH, 3 how ROUGH, 4 LONG now,"
            + " 5 how often GONE, 6 whether it is closed (1, 0). NONE: no such ones.");
        RoadWheels x = Check.county("sk9;p;p;p;ra2b0l9d9;r;w;ws2", "20");
        x.puts(1, 0);
        x.days(1);
        x.bars(0);
        int[] want = {2, 0, 9, 9, 11, 1, 1};
        int[] other = {0, 1, 4, 2, 4, 0, 0};
        for (int what = 0; what < 7; what++) {
            due("road(0, " + what + ")", x.road(0, what), want[what]);
            due("road(1, " + what + ")", x.road(1, what), other[what]);
            due("road(2, " + what + ")", x.road(2, what), NONE);
            due("road(-1, " + what + ")", x.road(-1, what), NONE);
            due("no COUNTY", new RoadWheels().road(0, what), NONE);
        }
        due("road(0, 7)", x.road(0, 7), NONE);
        due("road(0, -1)", x.road(0, -1), NONE);
        RoadWheels twelve = Check.county("p;p;" + TWELVE + ";w");
        due("road(11, 1)", twelve.road(11, 1), 1);
        due("road(12, 1)", twelve.road(12, 1), NONE);
        due("far away", twelve.road(Integer.MAX_VALUE, 0) + twelve.road(0, Integer.MIN_VALUE), 2 * NONE);
    }

    private static void wheels() {
        Check.says("Of a SET: 0 where it is, 1 its WAY (NONE: none), 2 how many PLACES of it are behind it"
            + " (the one where it is, too; 0 without).");
        RoadWheels x = Check.county("sh4k99;p;p;p;r;ra1b2;w;w;w;ws1", "0012", "12");
        due("where", Check.wheels(x, 3, 0), 1);
        due("its WAY", Check.wheels(x, 3, 1), NONE);
        due("0 without", Check.wheels(x, 3, 2), 0);
        x.puts(3, 1);
        due("its WAY then", Check.wheels(x, 3, 1), 1);
        due("the one where it is", Check.wheels(x, 3, 2), 1);
        x.puts(0, 0);
        x.days(1);
        due("three behind it", Check.wheels(x, 0, 2), 3);
        x.days(1);
        due("0 without any more", Check.wheels(x, 0, 2), 0);
        Check.says("`int wheels(int set, int what) throws NoSuchElementException`:");
        due("set 3 is the last", Check.wheels(x, 3, 0), 2);
        Check.says("0 without). NoSuchElementException: no such ones.");
        due("set 4", Check.wheels(x, 4, 0), Check.THROWN);
        due("set -1", Check.wheels(x, -1, 0), Check.THROWN);
        due("what 3", Check.wheels(x, 0, 3), Check.THROWN);
        due("what -1", Check.wheels(x, 0, -1), Check.THROWN);
        due("far away", Check.wheels(x, Integer.MIN_VALUE, Integer.MAX_VALUE), Check.THROWN);
        due("set 1 of one", Check.wheels(Check.county("p;p;r;w"), 1, 0), Check.THROWN);
        due("no COUNTY", Check.wheels(new RoadWheels(), 0, 0), Check.THROWN);
    }

    private static void spots() {
        Check.says("`int spot(int place, int what)`: Of a PLACE: 0 CUSTOMERS, 1 CALLS. NONE: no such ones.");
        RoadWheels x = Check.county("pc9;pc0;r;w", "0011");
        x.puts(0, 0);
        x.days(1);
        due("CUSTOMERS of 0", x.spot(0, 0), 9);
        due("CALLS of 0", x.spot(0, 1), 1);
        due("CUSTOMERS of 1", x.spot(1, 0), 0);
        due("CALLS of 1", x.spot(1, 1), 2);
        due("spot(2, 0)", x.spot(2, 0), NONE);
        due("spot(-1, 0)", x.spot(-1, 0), NONE);
        due("spot(0, 2)", x.spot(0, 2), NONE);
        due("spot(0, -1)", x.spot(0, -1), NONE);
        RoadWheels seven = Check.county("p;p;p;p;p;p;pc8;r;w");
        due("spot(6, 0)", seven.spot(6, 0), 8);
        due("spot(7, 0)", seven.spot(7, 0), NONE);
        due("no COUNTY", new RoadWheels().spot(0, 0), NONE);
    }

    private static void laws() {
        Check.says("`boolean law(int law)`: The LAW that holds (NONE: none).");
        RoadWheels x = Check.county("p;p;rl9d9;w");
        Check.due("law(NONE) of none", x.law(NONE), true);
        for (int law = 0; law < 4; law++) {
            Check.due("law(" + law + ") is not told", x.law(law), false);
            Check.tell(x, 1, "y:" + (law + 1));
            due("it does not hold yet", x.count(6), law - 1);
            Check.due("law(" + law + ")", x.law(law), true);
            due("it holds", x.count(6), law);
            due("LONG by it", x.road(0, 4), law + 1);
        }
        Check.due("the first again", x.law(0), true);
        due("LONG by the first", x.road(0, 4), 1);
        Check.says("(NONE: none). False: no such one.");
        for (int law : new int[] {-2, 4, Integer.MIN_VALUE, Integer.MAX_VALUE}) {
            Check.due("law(" + law + ")", x.law(law), false);
            due("the first still holds", x.count(6), 0);
        }
        Check.due("law(NONE)", x.law(NONE), true);
        due("none holds", x.count(6), NONE);
        due("LONG by none", x.road(0, 4), 11);
        RoadWheels none = new RoadWheels();
        Check.tell(none, 1, "y:1");
        Check.due("no COUNTY", none.law(0), true);
    }

    public static void main(String[] args) {
        worths();
        signs();
        heldLong();
        letters();
        lastDays();
        hours();
        stays();
        whichRoad();
        counted();
        coins();
        logs();
        daysGo();
        put();
        carry();
        bar();
        give();
        acts();
        undo();
        status();
        roads();
        wheels();
        spots();
        laws();
        Check.finish();
    }
}
