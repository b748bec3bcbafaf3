/** What is asked apart, from as it is now: each edge that the document names. */
public final class AskEdgesTest {
    private static final int NONE = Check.NONE;
    private static final int HIDDEN = Check.HIDDEN;
    private static final int LOW = Integer.MIN_VALUE;
    private static final int HIGH = Integer.MAX_VALUE;
    /** 0-1, 1-2, 2-3, 3-0, each 1 LONG. */
    private static final String RING = "sk99h1;p;p;p;p;rl1d0;ra1b2l1d0;ra2b3l1d0;ra3b0l1d0;w;w";
    /** 0-1, 1-2, .., 5-6, each 1 LONG. */
    private static final String LINE = "sk99h1;p;p;p;p;p;p;p;rl1d0;ra1b2l1d0;ra2b3l1d0;ra3b4l1d0;ra4b5l1d0;ra5b6l1d0;w";
    /** 0-1 2, 0-2 3, 0-3 4. */
    private static final String STAR = "p;p;p;p;rl2d0;rb2l3d0;rb3l4d0;w";
    private static final String TWELVE = "rl1;rl2;rl3;rl4;rl5;rl6;rl7;rl8;rl9;rl9d4;rl9d8;rl1";

    private static void due(String what, long got, long want) {
        Check.due(what, got, want);
    }

    private static RoadWheels barred(String county, int... roads) {
        RoadWheels x = Check.county(county);
        for (int road : roads) {
            x.bars(road);
        }
        return x;
    }

    private static RoadWheels busy(int coins) {
        String county = "sh9k" + coins + ";p;pc4;p;p;pc0;p;r;ra1b2;ra2b3l1;ra3b4;ra4b0;rb2l9;w;ws1;ws2";
        RoadWheels x = Check.lawful("y:l+n+r", county, "0123", "123401", "2102");
        x.flood(6);
        x.years(6, 4);
        x.seen(0, 1, 1, true);
        return x;
    }

    private static void apart() {
        Check.says("(Apart, from as it is now; COINS do not matter, DAYS go on behind 999.");
        Look look = new Look();
        look.alike("COINS do not matter", () -> busy(0), () -> busy(99), "rule(1)");
        look.alike("asked twice", () -> askedAll(busy(5)), () -> busy(5));
        RoadWheels x = Check.lawful("y:y", "p;p;r;w", "01");
        for (int i = 0; i < 17; i++) {
            x.days(Math.min(60, 999 - x.count(7)));
        }
        x.puts(0, 0);
        due("DAY 999: 24 LONG", x.where(0, 1), 0);
        due("DAY 1000: 1 LONG", x.where(0, 2), 1);
        due("behind DAY 1000", x.done(0), 2);
        due("the DAY is left", x.count(7), 999);
        Check.says("LONG: of this DAY, but where DAYS go.)");
        RoadWheels y = Check.lawful("y:7-y*2", "sh3;p;p;r;w", "01");
        y.puts(0, 0);
        due("FAR on DAY 0", y.far(0, 1), 7);
        due("it goes on DAY 2, not on 1", y.where(0, 2), 0);
        due("on DAY 2", y.where(0, 3), 1);
        y.days(1);
        due("FAR on DAY 1", y.far(0, 1), 5);
        due("TOUR on DAY 1", y.tour(0, 2, 0), 10);
        due("ALL on DAY 1", y.most(8), 5);
        due("DONE from DAY 1", y.done(0), 2);
    }

    /** All that only asks, once with what there is and once with what there is not. */
    private static RoadWheels askedAll(RoadWheels x) {
        for (int i : new int[] {-1, 0, 1, 2, 7, 99}) {
            x.rule(i);
            x.road(i, 4);
            Check.wheels(x, i, 0);
            x.spot(i, 1);
            x.walked(i, i);
            x.status(i);
            x.log(i, 0);
            x.far(0, i);
            x.row(i, 2);
            x.where(i, 60);
            x.done(i);
            x.parted(i, 3);
            x.joined(i, 3);
            x.fits(i);
            x.ask(i);
            x.tour(0, i, 1);
            x.doors(i, 0);
            x.game(0, 1, i, 1, 0);
            x.rests(1, i, -1);
            x.odds(i, 3, 50);
            x.dead(i);
            x.shares(i, 9);
            x.most(i);
            x.fault(i);
            x.count(i);
        }
        return x;
    }

    // promises 22, 23

    private static void far() {
        Check.says("FAR from one PLACE to another: the fewest HOURS by open ROADS (to itself: 0);");
        RoadWheels x = Check.county(LINE);
        for (int from = 0; from < 7; from++) {
            for (int to = 0; to < 7; to++) {
                due("far(" + from + ", " + to + ")", x.far(from, to), Math.abs(from - to));
            }
        }
        RoadWheels y = Check.county("p;p;p;rl9d0;rb2l4d0;ra2b1l4d0;w");
        due("around is nearer", y.far(0, 1), 8);
        due("as near", Check.county("p;p;p;rl9d0;rb2l4d0;ra2b1l5d0;w").far(0, 1), 9);
        due("farther", Check.county("p;p;p;rl9d0;rb2l5d0;ra2b1l5d0;w").far(0, 1), 9);
        y.bars(1);
        due("by open ROADS", y.far(0, 1), 9);
        y.bars(2);
        due("none to 2", y.far(0, 2), NONE);
        due("to itself all the same", y.far(2, 2), 0);
        due("all 24 LONG", Check.lawful("y:99", LINE).far(0, 6), 144);
        due("by way of 0", Check.county(STAR).far(1, 2), 5);
        due("by way of 0, too", Check.county(STAR).far(3, 2), 7);
        Check.says("`int far(int from, int to)`: FAR. NONE: one can't come there, no such PLACES.");
        due("one can't come there", y.far(2, 0), NONE);
        for (int no : new int[] {-1, 3, LOW, HIGH}) {
            due("far(0, " + no + ")", y.far(0, no), NONE);
            due("far(" + no + ", 0)", y.far(no, 0), NONE);
            due("far(" + no + ", " + no + ")", y.far(no, no), NONE);
        }
        due("no COUNTY", new RoadWheels().far(0, 0), NONE);
    }

    private static void row() {
        Check.says("ROW: the digits of PLACES on such a way, both ends, too (the first the highest;");
        RoadWheels x = Check.county(LINE);
        due("row(0, 6)", x.row(0, 6), 123456);
        due("row(6, 0)", x.row(6, 0), 6543210);
        due("row(1, 3)", x.row(1, 3), 123);
        due("row(2, 1)", x.row(2, 1), 21);
        due("by way of 0", Check.county(STAR).row(1, 2), 102);
        due("by way of 0, too", Check.county(STAR).row(3, 1), 301);
        Check.says("of several with as few HOURS that with the fewest PLACES, then the least number).");
        String ways = "p;p;p;p;p;rb4l4d0;rb3l2d0;ra3b4l2d0;rb2l2d0;ra2b4l2d0;rb1l2d0;ra1b4l2d0;w";
        due("straight", barred(ways).row(0, 4), 4);
        due("the least number", barred(ways, 0).row(0, 4), 14);
        due("the least but one", barred(ways, 0, 5).row(0, 4), 24);
        due("the last", barred(ways, 0, 5, 3).row(0, 4), 34);
        due("from the other end", barred(ways, 0).row(4, 0), 410);
        String longer = "p;p;p;p;p;rb1l1d0;ra1b2l1d0;ra2b4l2d0;rb3l2d0;ra3b4l2d0;w";
        due("fewer PLACES, not a less digit", barred(longer).row(0, 4), 34);
        due("fewer HOURS, not fewer PLACES", Check.county("p;p;p;p;rb3l4d0;rl1d0;ra1b2l1d0;ra2b3l1d0;w").row(0, 3), 123);
        Check.says("`int row(int from, int to)`: ROW (to itself: that PLACE). NONE likewise.");
        for (int place = 0; place < 7; place++) {
            due("to itself", x.row(place, place), place);
        }
        x.bars(0);
        due("one can't come there", x.row(0, 1), NONE);
        due("nor back", x.row(6, 0), NONE);
        due("alone, to itself", x.row(0, 0), 0);
        for (int no : new int[] {-1, 7, LOW, HIGH}) {
            due("row(0, " + no + ")", x.row(0, no), NONE);
            due("row(" + no + ", 0)", x.row(no, 0), NONE);
            due("row(" + no + ", " + no + ")", x.row(no, no), NONE);
        }
        due("no COUNTY", new RoadWheels().row(0, 0), NONE);
    }

    // promises 24, 25

    private static void where() {
        Check.says("WHERE a SET is, were n (0 .. 60) DAYS to go.");
        RoadWheels x = Check.lawful("y:n+1", RING + ";w", "0123", "010", "10");
        x.puts(0, 0);
        x.puts(1, 1);
        due("none", x.where(0, 0), 0);
        due("one", x.where(0, 1), 1);
        due("the other SET wore its ROAD", x.where(1, 2), 1);
        due("two", x.where(0, 2), 2);
        due("three", x.where(0, 3), 3);
        due("60", x.where(0, 60), 3);
        due("one that has no WAY", x.where(2, 60), 0);
        RoadWheels late = Check.lawful("y:61-y", "sh2;p;p;r;w", "01");
        late.puts(0, 0);
        due("behind 59", late.where(0, 59), 0);
        due("behind 60", late.where(0, 60), 1);
        Check.says("`int where(int set, int n)`: WHERE. NONE: no such SET, out of bounds.");
        due("n 61", x.where(0, 61), NONE);
        due("n -1", x.where(0, -1), NONE);
        due("n low", x.where(0, LOW), NONE);
        due("n high", x.where(0, HIGH), NONE);
        due("set 3", x.where(3, 0), NONE);
        due("set -1", x.where(-1, 0), NONE);
        due("no COUNTY", new RoadWheels().where(0, 0), NONE);
        due("nothing went", x.count(7) + x.road(0, 5) + x.spot(1, 1) + x.count(10), 0);
    }

    private static void done() {
        Check.says("DONE of a SET: behind how many DAYS (0 .. 60) it has no WAY first.");
        int[] behind = {1, 2, 59, 60};
        for (int days : behind) {
            RoadWheels x = Check.lawful("y:" + (days + 1) + "-y", "sh2;p;p;r;w", "01");
            due("none yet", x.done(0), 0);
            x.puts(0, 0);
            due("DONE", x.done(0), days);
        }
        Check.says("`int done(int set)`: DONE. NONE: not within 60, no such SET.");
        RoadWheels never = Check.lawful("y:62-y", "sh2k9;p;p;r;w", "01");
        never.puts(0, 0);
        due("behind 61", never.done(0), NONE);
        never.days(1);
        due("60 from the next DAY on", never.done(0), 60);
        never.bars(0);
        due("never", never.done(0), NONE);
        due("set 1", never.done(1), NONE);
        due("set -1", never.done(-1), NONE);
        due("no COUNTY", new RoadWheels().done(0), NONE);
    }

    // promises 26, 27

    private static void parted() {
        Check.says("PARTED for two PLACES: the fewest open ROADS (bits) that would have to be closed"
            + " so that one can't come from one to the other (of several the least).");
        RoadWheels x = Check.county(RING);
        due("two, the least", x.parted(0, 2), 5);
        due("the other way", x.parted(2, 0), 5);
        due("two of them", x.parted(0, 1), 3);
        due("at its end", x.parted(3, 0), 9);
        x.bars(0);
        due("one is closed", x.parted(0, 1), 2);
        x.bars(3);
        due("parted already", x.parted(0, 1), 0);
        due("the rest", x.parted(1, 3), 2);
        due("all twelve", Check.county("p;p;" + TWELVE + ";w").parted(0, 1), 4095);
        due("one, not two that are less", Check.county("p;p;p;rb2;rb2;ra2b1;w").parted(0, 1), 4);
        Check.says("`int parted(int from, int to)`: PARTED, as bits. NONE: no such PLACES, alike.");
        for (int no : new int[] {-1, 4, LOW, HIGH}) {
            due("parted(0, " + no + ")", x.parted(0, no), NONE);
            due("parted(" + no + ", 0)", x.parted(no, 0), NONE);
        }
        due("alike", x.parted(3, 3), NONE);
        due("no COUNTY", new RoadWheels().parted(0, 1), NONE);
    }

    private static void joined() {
        Check.says("JOINED for two: the fewest closed ROADS (bits) to be opened so that one can"
            + " (of several the least; one can already: none, 0).");
        RoadWheels x = barred(RING, 0, 1, 2, 3);
        due("two, the least", x.joined(0, 2), 3);
        due("the other way", x.joined(2, 0), 3);
        due("one", x.joined(0, 1), 1);
        due("the last one", x.joined(0, 3), 8);
        x.bars(2);
        due("with what is open", x.joined(0, 2), 8);
        due("one can already", x.joined(3, 2), 0);
        due("all six", barred(LINE, 0, 1, 2, 3, 4, 5).joined(0, 6), 63);
        due("one, not two that are less", barred("p;p;p;rb2;ra2b1;r;w", 0, 1, 2).joined(0, 1), 4);
        due("the least of twelve", barred("p;p;" + TWELVE + ";w", 0, 1, 2, 3, 4, 5, 6, 7, 8, 9, 10, 11).joined(0, 1), 1);
        Check.says("`int joined(int from, int to)`: JOINED, as bits. NONE: by none, no such PLACES, alike.");
        RoadWheels apart = Check.county("p;p;p;r;w");
        due("by none", apart.joined(0, 2), NONE);
        apart.bars(0);
        due("by none of what is closed", apart.joined(2, 1), NONE);
        for (int no : new int[] {-1, 3, LOW, HIGH}) {
            due("joined(0, " + no + ")", apart.joined(0, no), NONE);
            due("joined(" + no + ", 0)", apart.joined(no, 0), NONE);
        }
        due("alike", apart.joined(1, 1), NONE);
        due("no COUNTY", new RoadWheels().joined(0, 1), NONE);
    }

    // promises 28, 29, 30

    private static void seen() {
        Check.says("SEEN (10 at most):");
        RoadWheels x = Check.county(RING, "010101010101", "01");
        for (int i = 1; i <= 10; i++) {
            due("SEEN", x.seen(1, 3, 9, false), i);
            due("count(9)", x.count(9), i);
        }
        due("an eleventh", x.seen(1, 3, 9, false), NONE);
        due("ten", x.count(9), 10);
        Check.says("behind n (1 .. 9) DAYS a SET was at a PLACE, or was not,");
        for (int n = 1; n <= 9; n++) {
            RoadWheels y = Check.county(RING, "010101010101", "03");
            y.seen(0, n % 2, n, true);
            due("it was there behind " + n, y.fits(0), 1);
            RoadWheels z = Check.county(RING, "010101010101", "03");
            z.seen(0, n % 2, n, false);
            due("it was not there behind " + n, z.fits(0), 2);
            z.seen(0, 3, n, false);
            due("nor there", z.fits(0), 0);
        }
        Check.says("`int seen(int set, int place, int n, boolean is)`: SEEN: how many there are."
            + " NONE: no such ones, out of bounds, there are ten.");
        RoadWheels no = Check.county(RING);
        for (int n : new int[] {0, 10, -1, LOW, HIGH}) {
            due("n " + n, no.seen(0, 0, n, true), NONE);
        }
        for (int set : new int[] {-1, 2, LOW, HIGH}) {
            due("set " + set, no.seen(set, 0, 1, true), NONE);
        }
        for (int place : new int[] {-1, 4, LOW, HIGH}) {
            due("place " + place, no.seen(0, place, 1, true), NONE);
        }
        due("none of these", no.count(9), 0);
        RoadWheels other = Check.county(RING, "01", "03");
        other.seen(1, 3, 1, true);
        due("of the SET that was SEEN", other.fits(1), 2);
        due("of no other", other.fits(0), 3);
        due("the last ones", no.seen(1, 3, 9, true), 1);
        due("no COUNTY", new RoadWheels().seen(0, 0, 1, true), NONE);
    }

    /** What SEEN, FITS and ASK look at is as told, whatever has been since. */
    private static RoadWheels sighted(boolean since) {
        RoadWheels x = Check.lawful("y:1+n*5+r*5+y", RING, "0123", "0101", "0303", "10");
        x.seen(0, 1, 1, true);
        if (since) {
            x.carries(1, 1);
            x.puts(1, 3);
            x.puts(0, 1);
            x.days(40);
            x.bars(0);
            x.bars(1);
            x.carries(0, 2);
        }
        return x;
    }

    private static void fits() {
        Check.says("as told (the COUNTY as it was told, DAY 0, none closed or GONE; just this SET going, put to its WAY at once),");
        for (int set = 0; set < 2; set++) {
            due("FITS", sighted(true).fits(set), sighted(false).fits(set));
            due("ASK", sighted(true).ask(set), sighted(false).ask(set));
        }
        due("FITS as told", sighted(true).fits(0), 3);
        due("of the other SET", sighted(true).fits(1), 7);
        Check.says("always put to the same WAY.");
        RoadWheels x = Check.county(RING, "0123", "0321");
        x.seen(0, 1, 1, true);
        due("the one", x.fits(0), 1);
        x.seen(0, 1, 3, true);
        due("the one at first, the other then: none", x.fits(0), 0);
        due("nothing to ask", x.ask(0), NONE);
        due("the other SET is another", x.fits(1), 3);
        Check.says("FITS for a SET: WAYS (bits) that begin where it was told to be, by which all SEEN of it is so.");
        RoadWheels y = Check.county("sk99;p;p;p;r;ra1b2;w;ws2", "01", "21", "02", "00");
        due("all that begin there", y.fits(0), 13);
        due("of the other SET", y.fits(1), 2);
        y.carries(0, 2);
        due("where it was told to be", y.fits(0), 13);
        due("no WAY at all", Check.county(RING).fits(0), 0);
        due("none begins there", Check.county(RING, "10", "99").fits(0), 0);
        RoadWheels ends = Check.county(RING, "01");
        ends.seen(0, 1, 9, true);
        due("a SET that has gone its WAY stays", ends.fits(0), 1);
        Check.says("`int fits(int set)`: FITS, as bits. NONE: no such SET.");
        due("set 2", y.fits(2), NONE);
        due("set -1", y.fits(-1), NONE);
        due("no COUNTY", new RoadWheels().fits(0), NONE);
    }

    private static int asked(String... ways) {
        String star = "sh1;p;p;p;p;rl1d0;rb2l1d0;rb3l1d0;ra1b2l1d0;ra1b3l1d0;w";
        return Check.county(star, ways).ask(0);
    }

    private static void ask() {
        Check.says("ASK of a SET: the n (1 .. 9) by which the PLACE it is at behind n DAYS is told apart best:");
        due("at once", asked("01", "02", "03"), 1);
        due("behind three", asked("0102", "0103", "0101"), 3);
        due("behind nine", asked("0101010101", "0101010102"), 9);
        due("not behind ten", asked("01010101010", "01010101013"), 1);
        Check.says("by which the most of these WAYS that agree in that PLACE are fewest (of several the least).");
        due("one alone", asked("0123"), 1);
        due("two and two, then three and one", asked("0131", "0131", "0213", "0212"), 1);
        due("three and one, then two and two", asked("010", "010", "013", "023"), 2);
        due("two and two twice", asked("010", "010", "020", "020"), 1);
        due("two and two, then one and one and two", asked("0101", "0102", "0201", "0203"), 1);
        due("two and two, then all apart", asked("0120", "0102", "0213", "0201"), 3);
        RoadWheels x = Check.county(RING, "0123", "0321", "0101");
        due("of all that begin there", x.ask(0), 1);
        x.seen(0, 3, 1, false);
        due("of what fits", x.ask(0), 2);
        Check.says("`int ask(int set)`: ASK. NONE: nothing fits, no such SET.");
        x.seen(0, 1, 1, false);
        due("nothing fits", x.ask(0), NONE);
        due("no WAY", Check.county(RING).ask(0), NONE);
        due("set 2", x.ask(2), NONE);
        due("set -1", x.ask(-1), NONE);
        due("no COUNTY", new RoadWheels().ask(0), NONE);
    }

    // promises 31, 32

    private static void tour() {
        Check.says("TOUR of some PLACES (bits, one at least) from one PLACE: the fewest HOURS"
            + " by which one comes to all of these from it, in any order, and back;");
        RoadWheels line = Check.county(LINE);
        due("to the end and back", line.tour(0, 64, 0), 12);
        due("from the middle", line.tour(3, 65, 0), 12);
        due("all", line.tour(3, 127, 0), 12);
        due("itself", line.tour(3, 8, 0), 0);
        due("round", Check.county(RING).tour(0, 14, 0), 4);
        due("forth and back", barred(RING, 3).tour(0, 14, 0), 6);
        Check.says("the row of them in the order in which they are headed for (digits; others of them may be passed on the way;");
        due("passed on the way", line.tour(0, 72, 1), 36);
        due("all, from the middle", line.tour(3, 127, 1), 3012456);
        Check.says("of several the least number;");
        due("round", Check.county(RING).tour(0, 14, 1), 123);
        due("round from 2", Check.county(RING).tour(2, 11, 1), 103);
        due("either side first", line.tour(3, 65, 1), 6);
        due("not in that order", Check.county("p;p;p;p;rb3l1d0;ra3b1l1d0;ra1b2l1d0;ra2b0l9d0;w").tour(0, 14, 1), 123);
        due("in no other", Check.county("p;p;p;p;rb2l1d0;ra2b1l1d0;ra1b3l1d0;ra3b0l1d0;w").tour(0, 14, 1), 213);
        Check.says("where one begins is in it, if it is one of them, first).");
        due("in it", line.tour(6, 65, 1), 60);
        due("not in it", line.tour(6, 1, 1), 0);
        due("it alone", line.tour(5, 32, 1), 5);
        due("it and a lower one", line.tour(5, 34, 1), 51);
        Check.says("`int tour(int from, int places, int what)`: TOUR: HOURS (0), the row (1)."
            + " NONE: one can't come to all, no such PLACES, no such what.");
        RoadWheels cut = barred(LINE, 5);
        for (int what = 0; what < 2; what++) {
            due("one can't come to 6", cut.tour(0, 65, what), NONE);
            due("nor from 6", cut.tour(6, 1, what), NONE);
            due("from 6 to itself", cut.tour(6, 64, what), what == 0 ? 0 : 6);
            due("to all others", cut.tour(0, 63, what), what == 0 ? 10 : 12345);
            for (int bits : new int[] {0, -1, 128, 129, LOW, HIGH}) {
                due("bits " + bits, line.tour(0, bits, what), NONE);
            }
            for (int from : new int[] {-1, 7, LOW, HIGH}) {
                due("from " + from, line.tour(from, 1, what), NONE);
            }
            due("bits beyond two PLACES", Check.county("p;p;r;w").tour(0, 4, what), NONE);
            due("no COUNTY", new RoadWheels().tour(0, 1, what), NONE);
        }
        due("what 2", line.tour(0, 1, 2), NONE);
        due("what -1", line.tour(0, 1, -1), NONE);
    }

    private static void doors() {
        Check.says("DOORS for some PLACES (bits): rows of digits by SETS (to which of these each goes, no two to the same,"
            + " 9 none; the first the highest),");
        RoadWheels x = Check.county("sk99;p;p;p;p;p;rl1d0;ra1b2l1d0;ra2b3l1d0;w;w;ws3;ws3");
        due("all four", x.doors(15, 0), 123);
        due("one PLACE", x.doors(1, 0), 999);
        due("another", x.doors(8, 0), 9939);
        due("one SET alone", Check.county("p;p;r;ws1").doors(3, 0), 1);
        Check.says("by which as many as can be go, with the fewest HOURS together (FAR; of several the least row): the row; HOURS.");
        due("all four", x.doors(15, 1), 2);
        due("where they are", x.doors(9, 0), 939);
        due("no HOURS", x.doors(9, 1), 0);
        due("one each", x.doors(6, 0), 1929);
        due("an HOUR each", x.doors(6, 1), 2);
        due("as many as can, though one alone has fewer HOURS", Check.county("p;p;r;w;w").doors(3, 0), 1);
        due("its HOURS", Check.county("p;p;r;w;w").doors(3, 1), 4);
        due("one can't come there", x.doors(16, 0), 9999);
        due("none goes", x.doors(16, 1), 0);
        due("of two the one it can come to", x.doors(24, 0), 9939);
        x.bars(1);
        due("parted", x.doors(7, 0), 129);
        due("parted, HOURS", x.doors(7, 1), 2);
        due("the fewer HOURS, not the least row", Check.county("p;p;p;rb1l1d0;ra1b2l1d0;ws2;w").doors(6, 0), 21);
        Check.says("`int doors(int places, int what)`: DOORS: the row (0), HOURS (1)."
            + " NONE: no COUNTY, no such PLACES (one at least), no such what.");
        for (int what = 0; what < 2; what++) {
            for (int bits : new int[] {0, -1, 32, 33, LOW, HIGH}) {
                due("bits " + bits, x.doors(bits, what), NONE);
            }
            due("no COUNTY", new RoadWheels().doors(1, what), NONE);
            due("all seven", Check.county(LINE).doors(127, what), 0);
            due("an eighth", Check.county(LINE).doors(128, what), NONE);
        }
        due("what 2", x.doors(1, 2), NONE);
        due("what -1", x.doors(1, -1), NONE);
    }

    // promises 33, 34

    private static void game() {
        Check.says("GAME of two SETS: x, y (0 .. 6) to which PLACE each goes: what one has: CUSTOMERS there three times,"
            + " less HOURS to it (FAR), by 2, cut towards 0, if both go to the same one;");
        RoadWheels x = Check.county("pc9;pc1;pc0;p;rl3d0;ra1b2l2d0;w;ws2;ws3");
        gameDue(x, 0, 0, 13, 11);
        gameDue(x, 0, 1, 27, 1);
        gameDue(x, 1, 0, 0, 22);
        gameDue(x, 1, 1, 0, 0);
        gameDue(x, 2, 0, -5, 22);
        gameDue(x, 2, 2, -2, 0);
        gameDue(x, 0, 2, 27, 0);
        Check.says("if there is no such PLACE, or it can't come there: -9 in any case (not by 2).");
        gameDue(x, 3, 0, -9, 22);
        gameDue(x, 3, 3, -9, -9);
        gameDue(x, 4, 4, -9, -9);
        gameDue(x, 6, 6, -9, -9);
        gameDue(x, 0, 6, 27, -9);
        due("both go there, one can't come", x.game(2, 0, 3, 3, 0), 4);
        due("that one", x.game(2, 0, 3, 3, 1), -9);
        due("of seven PLACES 6 is there", Check.county(LINE + ";w").game(0, 1, 6, 0, 0), 3);
        Check.says("`int game(int one, int other, int x, int y, int what)`: GAME: what the one has (0), the other (1)."
            + " HIDDEN: no such SETS, alike, out of bounds.");
        due("the other way round, the one", x.game(1, 0, 2, 0, 0), 0);
        due("the other way round, the other", x.game(1, 0, 2, 0, 1), 27);
        for (int no : new int[] {-1, 7, LOW, HIGH}) {
            due("x " + no, x.game(0, 1, no, 0, 0), HIDDEN);
            due("y " + no, x.game(0, 1, 0, no, 0), HIDDEN);
            due("both " + no, x.game(0, 1, no, no, 1), HIDDEN);
        }
        for (int no : new int[] {-1, 3, LOW, HIGH}) {
            due("one " + no, x.game(no, 1, 0, 0, 0), HIDDEN);
            due("other " + no, x.game(0, no, 0, 0, 1), HIDDEN);
        }
        due("alike", x.game(1, 1, 0, 0, 0), HIDDEN);
        due("what 2", x.game(0, 1, 0, 0, 2), HIDDEN);
        due("what -1", x.game(0, 1, 0, 0, -1), HIDDEN);
        due("no COUNTY", new RoadWheels().game(0, 1, 0, 0, 0), HIDDEN);
    }

    private static void gameDue(RoadWheels x, int one, int other, int oneHas, int otherHas) {
        due("one at " + one + ", " + other, x.game(0, 1, one, other, 0), oneHas);
        due("other at " + one + ", " + other, x.game(0, 1, one, other, 1), otherHas);
    }

    private static void restsDue(String county, int... rests) {
        RoadWheels x = Check.county(county);
        due("how many of " + county, x.rests(0, 1, NONE), rests.length);
        for (int i = 0; i < rests.length; i++) {
            due("rests(" + i + ") of " + county, x.rests(0, 1, i), rests[i]);
        }
        due("behind the last of " + county, x.rests(0, 1, rests.length), NONE);
    }

    private static void rests() {
        Check.says("RESTS: 10 times x and y (PLACES there are) by which neither has more by another of its own:"
            + " how many, the i-th (rising).");
        restsDue("pc3;pc3;rl1d0;w;w", 1, 10);
        restsDue("pc1;pc1;rl3d0;w;ws1", 1);
        restsDue("pc1;pc1;rl3d0;ws1;w", 10);
        restsDue("pc2;pc2;rl3d0;w;w", 0, 1, 10);
        restsDue("pc9;pc0;rl1d0;w;w", 0);
        restsDue("pc0;pc0;p;rl9d9;w;ws1", 1);
        restsDue("pc0;pc0;p;p;p;p;pc1;rl9d9;w;ws6", 6);
        Check.says("`int rests(int one, int other, int i)`: RESTS: how many (i NONE), the i-th."
            + " NONE: no such one, no such SETS, alike.");
        RoadWheels x = Check.county("pc3;pc3;rl1d0;w;w;ws1");
        due("i -2", x.rests(0, 1, -2), NONE);
        due("i low", x.rests(0, 1, LOW), NONE);
        due("i high", x.rests(0, 1, HIGH), NONE);
        for (int i = -1; i < 2; i++) {
            for (int no : new int[] {-1, 3, LOW, HIGH}) {
                due("one " + no, x.rests(no, 1, i), NONE);
                due("other " + no, x.rests(0, no, i), NONE);
            }
            due("alike", x.rests(2, 2, i), NONE);
            due("no COUNTY", new RoadWheels().rests(0, 1, i), NONE);
        }
    }

    // promise 35

    /** Of the parts of each row of ROADS that are closed or not, by themselves. */
    private static int oddsByRows(int[][] roads, int from, int to, int chance) {
        long all = 0;
        for (int open = 0; open < 1 << roads.length; open++) {
            long parts = 1000000000;
            int[] part = {0, 1, 2, 3, 4, 5, 6};
            for (int road = 0; road < roads.length; road++) {
                long closed = parts * chance / 100;
                boolean isOpen = (open >> road & 1) != 0;
                parts = isOpen ? parts - closed : closed;
                int old = part[roads[road][1]];
                for (int i = 0; isOpen && i < 7; i++) {
                    part[i] = part[i] == old ? part[roads[road][0]] : part[i];
                }
            }
            all += part[from] == part[to] ? parts : 0;
        }
        return (int) all;
    }

    private static int[][] without(int[][] roads, int closed) {
        int[][] left = new int[roads.length - 1][];
        for (int road = 0; road < left.length; road++) {
            left[road] = roads[road < closed ? road : road + 1];
        }
        return left;
    }

    private static void odds() {
        Check.says("ODDS for two PLACES and a chance (0 .. 100): each open ROAD is closed by chance, each by itself, by numbers:");
        RoadWheels one = Check.county("p;p;p;r;w");
        for (int chance = 0; chance <= 100; chance++) {
            due("one ROAD, " + chance, one.odds(0, 1, chance), 10000000 * (100 - chance));
            due("to itself, " + chance, one.odds(2, 2, chance), 1000000000);
            due("never, " + chance, one.odds(0, 2, chance), 0);
        }
        int[][] roads = {{0, 1}, {1, 2}, {2, 3}, {3, 0}, {1, 3}, {0, 1}, {2, 4}, {4, 3}, {4, 0}};
        StringBuilder county = new StringBuilder("p;p;p;p;p;w");
        for (int[] road : roads) {
            county.append(";ra").append(road[0]).append("b").append(road[1]);
        }
        RoadWheels x = Check.county(county.toString());
        for (int chance : new int[] {0, 1, 2, 7, 33, 50, 67, 98, 99, 100}) {
            for (int to = 1; to < 5; to++) {
                due("odds(0, " + to + ", " + chance + ")", x.odds(0, to, chance), oddsByRows(roads, 0, to, chance));
            }
        }
        Check.says("of 10 to the 9 parts those by which one can come from one to the other (of each part chance 100ths, cut, closed).");
        due("four ROADS", Check.county("p;p;r;r;r;r;w").odds(0, 1, 1), 999999990);
        due("a fifth is never closed with them", Check.county("p;p;r;r;r;r;r;w").odds(0, 1, 1), 1000000000);
        due("four of 99", Check.county("p;p;r;r;r;r;w").odds(0, 1, 99), 1000000000 - 960596010);
        due("five of 99", Check.county("p;p;r;r;r;r;r;w").odds(0, 1, 99), 1000000000 - 950990049);
        due("six of 99, cut", Check.county("p;p;r;r;r;r;r;r;w").odds(0, 1, 99), 1000000000 - 941480148);
        for (int closed = 0; closed < roads.length; closed++) {
            x.bars(closed);
            due("without ROAD " + closed, x.odds(0, 3, 7), oddsByRows(without(roads, closed), 0, 3, 7));
            due("without ROAD " + closed, x.odds(2, 0, 33), oddsByRows(without(roads, closed), 2, 0, 33));
            x.bars(closed);
        }
        RoadWheels two = Check.county("p;p;r;r;w");
        two.bars(0);
        due("each open ROAD", two.odds(0, 1, 50), 500000000);
        Check.says("`int odds(int from, int to, int chance)`: ODDS (to itself: all). NONE: no such PLACES, out of bounds.");
        due("chance 101", x.odds(0, 1, 101), NONE);
        due("chance -1", x.odds(0, 1, -1), NONE);
        due("chance 101 to itself", x.odds(0, 0, 101), NONE);
        for (int no : new int[] {-1, 5, LOW, HIGH}) {
            due("odds(0, " + no + ")", x.odds(0, no, 50), NONE);
            due("odds(" + no + ", 0)", x.odds(no, 0, 50), NONE);
            due("odds(" + no + ", " + no + ")", x.odds(no, no, 50), NONE);
            due("chance " + no, no == 5 ? NONE : x.odds(0, 1, no), NONE);
        }
        due("no COUNTY", new RoadWheels().odds(0, 0, 0), NONE);
    }

    // promises 36, 37, 38

    private static void dead() {
        Check.says("DEAD of a PLACE: to how many PLACES one can't come from there.");
        RoadWheels x = Check.county(LINE);
        for (int closed = 0; closed < 6; closed++) {
            due("behind the cut", x.dead(6), closed);
            due("alone", x.dead(0), closed == 0 ? 0 : 6);
            x.bars(closed);
        }
        due("all alone", x.dead(3), 6);
        Check.says("`int dead(int place)`: DEAD. NONE: no such PLACE.");
        due("dead(6)", x.dead(6), 6);
        due("dead(7)", x.dead(7), NONE);
        due("dead(-1)", x.dead(-1), NONE);
        due("no COUNTY", new RoadWheels().dead(0), NONE);
    }

    private static void shares() {
        Check.says("SHARES of c (0 .. 999) by CALLS: for a PLACE c times its by those of all, cut (none: 0).");
        RoadWheels x = Check.county("sh24;p;p;p;rl1d0;ra1b2l1d0;w", "0121");
        due("none", x.shares(0, 999), 0);
        x.puts(0, 0);
        x.days(1);
        int[] calls = {0, 2, 1};
        for (int place = 0; place < 3; place++) {
            for (int c : new int[] {0, 1, 2, 3, 500, 998, 999}) {
                due("shares(" + place + ", " + c + ")", x.shares(place, c), c * calls[place] / 3);
            }
        }
        RoadWheels first = Check.county("p;p;r;w", "0001");
        first.puts(0, 0);
        first.days(1);
        due("of the first PLACE", first.shares(0, 999), 666);
        due("of the other", first.shares(1, 999), 333);
        RoadWheels one = Check.county("p;p;r;w", "01");
        one.puts(0, 0);
        one.days(1);
        due("all of them", one.shares(1, 999), 999);
        Check.says("`int shares(int place, int c)`: SHARES. NONE: no such PLACE, out of bounds.");
        due("c 1000", x.shares(1, 1000), NONE);
        due("c -1", x.shares(1, -1), NONE);
        due("place 3", x.shares(3, 1), NONE);
        due("place -1", x.shares(-1, 1), NONE);
        due("c high", x.shares(0, HIGH), NONE);
        due("no COUNTY", new RoadWheels().shares(0, 0), NONE);
        RoadWheels still = Check.county("p;p;r;w");
        due("c 1000, none called", still.shares(0, 1000), NONE);
    }

    private static void greatest() {
        Check.says("CALLED: the PLACE with most CALLS; RICH: with most CUSTOMERS; LONGEST: the ROAD that is most LONG, open or not;"
            + " WORN: that was GONE most (of several the lowest, all).");
        RoadWheels x = Check.county("sh24k99;pc0;pc5;pc5;pc4;rl1d0;ra1b2l8d4;ra2b3l9d0;ra3b0l1d0;w", "01032", "0123", "1");
        due("none called: the lowest", x.most(0), 0);
        due("the lowest of two with most CUSTOMERS", x.most(1), 1);
        due("the lowest of two LONG alike", x.most(2), 1);
        due("none GONE: the lowest", x.most(3), 0);
        x.bars(1);
        due("open or not", x.most(2), 1);
        x.bars(1);
        x.puts(0, 0);
        x.days(1);
        due("0, 1, 3, 2 called at once each: the lowest", x.most(0), 0);
        due("WORN", x.most(3), 0);
        x.carries(0, 0);
        x.puts(0, 1);
        x.days(1);
        due("1, 2, 3 called at twice each: the lowest", x.most(0), 1);
        due("WORN then", x.most(3), 0);
        RoadWheels last = Check.county("p;p;p;p;p;p;pc4;" + TWELVE.replace("rl1;", "") + ";rl9d9;w", "16");
        due("RICH, the last", last.most(1), 6);
        due("LONGEST, the lowest of two", last.most(2), 9);
        due("LONGEST, the last", Check.county("p;p;" + TWELVE + "d9;w").most(2), 10);
        RoadWheels worn = Check.county("sk99;p;p;rl9;rl9;rl9;rl9;rl9;rl9;rl9;rl9;rl9;rl9;rl9;rl1d0;w", "01");
        worn.puts(0, 0);
        worn.days(1);
        due("WORN, the last", worn.most(3), 11);
    }

    private static void middle() {
        Check.says("MIDDLE: the PLACE from which the farthest one it can come to is nearest (of several the lowest).");
        RoadWheels x = Check.county(LINE);
        due("of seven", x.most(4), 3);
        x.bars(5);
        due("6 can come to itself alone", x.most(4), 6);
        due("of a ring the lowest", Check.county(RING).most(4), 0);
        due("2 can come to itself alone, in no HOUR", Check.county("p;p;p;rl1d0;w").most(4), 2);
        due("in the middle of a star", Check.county("p;p;p;p;ra3b0;ra3b1;ra3b2;w").most(4), 3);
        due("of four in a row the lower", barred(RING, 3).most(4), 1);
        due("of two", Check.county("p;p;r;w").most(4), 0);
        due("all alone", barred(RING, 0, 1, 2, 3).most(4), 0);
        due("by HOURS, not by ROADS", Check.county("p;p;p;p;rl9d0;ra1b2l1d0;ra2b3l1d0;w").most(4), 1);
    }

    private static void bits() {
        Check.says("BRIDGES: open ROADS (bits) without which PLACES that are joined would not be.");
        due("of a row all", Check.county(LINE).most(5), 63);
        due("of a ring none", Check.county(RING).most(5), 0);
        due("of a ring that is cut all others", barred(RING, 1).most(5), 13);
        due("where there are two none", Check.county("p;p;p;r;r;ra1b2;w").most(5), 4);
        due("one of two is closed", barred("p;p;p;r;r;ra1b2;w", 0).most(5), 6);
        due("all closed", barred(RING, 0, 1, 2, 3).most(5), 0);
        Check.says("CLOSED: ROADS (bits).");
        due("none", Check.county(RING).most(6), 0);
        due("two", barred(RING, 1, 3).most(6), 10);
        due("the twelfth", barred("p;p;" + TWELVE + ";w", 11).most(6), 2048);
        Check.says("ON: SETS (bits) that have a WAY.");
        RoadWheels x = Check.county("sk99;p;p;r;w;w;w;w", "01");
        due("none on", x.most(7), 0);
        x.puts(3, 0);
        due("the fourth", x.most(7), 8);
        x.puts(0, 0);
        due("two on", x.most(7), 9);
        x.carries(3, 1);
        due("one on", x.most(7), 1);
        x.days(1);
        due("none on then", x.most(7), 0);
        Check.says("ALL: how LONG open ROADS are together.");
        due("twelve", Check.county("p;p;" + TWELVE + ";w").most(8), 45 + 10 + 11 + 1);
        due("but one", barred("p;p;" + TWELVE + ";w", 10).most(8), 45 + 10 + 1);
        due("none open", barred(RING, 0, 1, 2, 3).most(8), 0);
        due("at most", Check.lawful("y:99", "p;p;" + TWELVE + ";w").most(8), 288);
        Check.says("PARTS: how many parts of the COUNTY are joined by open ROADS.");
        RoadWheels line = Check.county(LINE);
        for (int closed = 0; closed < 6; closed++) {
            due("PARTS", line.most(9), closed + 1);
            line.bars(5 - closed);
        }
        due("each PLACE", line.most(9), 7);
        due("a ring cut once", barred(RING, 2).most(9), 1);
        due("a ring cut twice", barred(RING, 2, 0).most(9), 2);
        Check.says("`int most(int what)`: CALLED (0), RICH (1), LONGEST (2), WORN (3), MIDDLE (4), BRIDGES (5, bits),"
            + " CLOSED (6, bits), ON (7, bits), ALL (8), PARTS (9). NONE: no COUNTY, no such what.");
        for (int what = 0; what < 10; what++) {
            due("no COUNTY", new RoadWheels().most(what), NONE);
        }
        for (int what : new int[] {-1, 10, LOW, HIGH}) {
            due("most(" + what + ")", line.most(what), NONE);
        }
    }

    public static void main(String[] args) {
        apart();
        far();
        row();
        where();
        done();
        parted();
        joined();
        seen();
        fits();
        ask();
        tour();
        doors();
        game();
        rests();
        odds();
        dead();
        shares();
        greatest();
        middle();
        bits();
        Check.finish();
    }
}
