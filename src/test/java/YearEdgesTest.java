import java.math.BigInteger;

/** YEARS and their draws, FLOOD, IMAGE, BACK, count: each edge that the document names. */
public final class YearEdgesTest {
    private static final int NONE = Check.NONE;
    private static final int LOW = Integer.MIN_VALUE;
    private static final int HIGH = Integer.MAX_VALUE;
    private static final long[] SEEDS = {0, 1, -1, 2, 77, -12345678901L, Long.MIN_VALUE, Long.MAX_VALUE,
        Long.MIN_VALUE + 1, 1L << 32, 1L << 33, 6364136223846793005L};
    private static final String TWELVE = "r;r;r;r;r;r;r;r;r;r;r;r";

    private static void due(String what, long got, long want) {
        Check.due(what, got, want);
    }

    /** The draws, worked out with numbers that never go round by themselves. */
    private static final class Draws {
        private static final BigInteger ROUND = BigInteger.ONE.shiftLeft(64);
        private static final BigInteger FACTOR = new BigInteger("6364136223846793005");
        private static final BigInteger STEP = new BigInteger("1442695040888963407");

        private BigInteger x;

        Draws(long seed) {
            x = BigInteger.valueOf(seed).mod(ROUND);
        }

        int of(int j) {
            x = x.multiply(FACTOR).add(STEP).mod(ROUND);
            return x.shiftRight(33).mod(BigInteger.valueOf(j)).intValue();
        }
    }

    private static int closedBy(long seed, int flood, int roads, int n) {
        return closedBy(seed, flood, roads, 1, n);
    }

    private static int closedBy(long seed, int flood, int roads, int sets, int n) {
        Draws draws = new Draws(seed);
        int closed = 0;
        for (int day = 0; day < n; day++) {
            if (draws.of(10) < flood) {
                closed ^= 1 << draws.of(roads);
            }
            draws.of(sets);
            draws.of(4);
        }
        return closed;
    }

    // promise 17

    private static void flood() {
        Check.says("`boolean flood(int v)`: FLOOD.");
        RoadWheels x = new RoadWheels();
        due("2 at first", x.count(8), 2);
        for (int v : new int[] {0, 9, 1, 8, 2, 7, 3, 6, 4, 5}) {
            Check.due("flood(" + v + ")", x.flood(v), true);
            due("it is so", x.count(8), v);
            Check.due("flood(" + v + ") again", x.flood(v), false);
            due("still so", x.count(8), v);
        }
        Check.says("False: out of bounds, it is so.");
        for (int v : new int[] {-1, 10, LOW, HIGH}) {
            Check.due("flood(" + v + ")", x.flood(v), false);
            due("still 5", x.count(8), 5);
        }
        Check.due("2 is so at first", new RoadWheels().flood(2), false);
    }

    // promise 18

    private static void drawnFloods() {
        Check.says("a draw of 10 below FLOOD (0 .. 9; 2 at first): a draw of how many ROADS there are:"
            + " it is closed, or open again (for nothing);");
        for (int flood = 0; flood <= 9; flood++) {
            for (int drawn = 0; drawn < 10; drawn++) {
                long seed = seedOf(drawn);
                RoadWheels x = Check.county("sk0;p;p;" + TWELVE + ";w");
                x.flood(flood);
                due("a DAY", x.years(1, seed), 1);
                due("drawn " + drawn + " of FLOOD " + flood, x.most(6), closedBy(seed, flood, 12, 1));
                Check.due("closed", x.most(6) != 0, drawn < flood);
                due("for nothing", x.rule(1), 0);
            }
        }
        for (int roads = 1; roads <= 12; roads++) {
            String county = "p;p;" + Check.times(roads, "r", ";") + ";w";
            for (long seed : SEEDS) {
                RoadWheels x = Check.county(county);
                x.flood(9);
                x.years(60, seed);
                due("of " + roads + " ROADS", x.most(6), closedBy(seed, 9, roads, 60));
            }
        }
        due("2 at first", yearsOf("p;p;" + TWELVE + ";w", 60, 3).most(6), closedBy(3, 2, 12, 60));
        Check.says("x, at first the seed, becomes x times 6364136223846793005 and 1442695040888963407 (64 bits, going round);");
        Check.says("a draw of j: (x shifted right by 33, without sign) modulo j.");
        for (long seed : SEEDS) {
            for (int n : new int[] {1, 2, 3, 59, 60}) {
                RoadWheels x = Check.county("p;p;" + TWELVE + ";w;w;w");
                x.flood(7);
                x.years(n, seed);
                due("seed " + seed + ", " + n, x.most(6), closedBy(seed, 7, 12, 3, n));
            }
        }
        RoadWheels twice = yearsOf("p;p;" + TWELVE + ";w", 40, 9);
        Check.due("some are closed", twice.most(6) != 0, true);
        twice.years(40, 9);
        due("each begins by its seed: the same are open again", twice.most(6), 0);
    }

    private static RoadWheels yearsOf(String county, int n, long seed) {
        RoadWheels x = Check.county(county);
        x.years(n, seed);
        return x;
    }

    /** The first seed whose first draw of 10 is this one. */
    private static long seedOf(int drawn) {
        for (long seed = 0; seed < 10000; seed++) {
            if (new Draws(seed).of(10) == drawn) {
                return seed;
            }
        }
        throw new IllegalStateException("no seed draws " + drawn);
    }

    private static void drawnPuts() {
        Check.says("then a draw of how many SETS, a draw of 4: that SET is put to the WAY with that number,"
            + " if it is told and begins where it is and the SET has none (for nothing).");
        String[] ways = {"0099", "1099", "0899", "0799"};
        for (int sets = 1; sets <= 4; sets++) {
            for (int told = 0; told <= 4; told++) {
                for (int i = 0; i < 24; i++) {
                    onePut(sets, told, ways, 31 * i - 200);
                }
            }
        }
        RoadWheels has = Check.county("sk3;p;p;r;w", "0099", "0899", "0799", "0999");
        has.puts(0, 1);
        has.years(60, 5);
        due("one that has a WAY keeps it", Check.wheels(has, 0, 1), 1);
        due("and stays as far in it", Check.wheels(has, 0, 2), 1);
        RoadWheels again = Check.county("sk0h1;p;p;r;w", "00", "00", "00", "00");
        again.flood(0);
        again.years(60, 5);
        due("put each DAY anew", again.spot(0, 1), 60);
    }

    /** One DAY: by hand what is drawn, no ROAD being in the way, with FLOOD 0. */
    private static void onePut(int sets, int told, String[] ways, long seed) {
        RoadWheels x = Check.county("sk0h1;p;p;rl9d0;" + Check.times(sets, "w", ";"));
        for (int way = 0; way < told; way++) {
            Check.tell(x, 2, ways[way]);
        }
        x.flood(0);
        due("a DAY", x.years(1, seed), 1);
        Draws draws = new Draws(seed);
        draws.of(10);
        int set = draws.of(sets);
        int way = draws.of(4);
        boolean put = way < told && ways[way].charAt(0) == '0';
        for (int i = 0; i < sets; i++) {
            boolean isPut = put && i == set;
            due("its WAY", Check.wheels(x, i, 1), isPut ? way : NONE);
            due("it went that DAY", Check.wheels(x, i, 2), isPut ? way == 0 ? 2 : 1 : 0);
        }
        due("its CALL gives a COIN, nothing was taken", x.rule(1), put && way == 0 ? 1 : 0);
    }

    private static void howManyYears() {
        Check.says("YEARS by a seed: n (1 .. 60) DAYS, ahead of each:");
        due("1", yearsOf("p;p;r;w", 1, 1).count(7), 1);
        due("60", yearsOf("p;p;r;w", 60, 1).count(7), 60);
        Check.says("`int years(int n, long seed)`: YEARS: the DAY. NONE: no COUNTY, out of bounds, beyond 999.");
        due("the DAY", Check.county("p;p;r;w").years(7, 1), 7);
        due("no COUNTY", new RoadWheels().years(1, 1), NONE);
        RoadWheels x = Check.county("p;p;r;w");
        for (int n : new int[] {0, 61, -1, LOW, HIGH}) {
            due("years(" + n + ")", x.years(n, 1), NONE);
        }
        for (int i = 0; i < 15; i++) {
            x.days(60);
        }
        x.days(39);
        due("939 and 61", x.years(61, 1), NONE);
        due("939 and 60", x.years(60, 1), 999);
        x.undo();
        due("998 and 2", x.years(2, 1), NONE);
        due("998 and 1", x.years(1, 1), 999);
        due("999 and 1", x.years(1, 1), NONE);
        due("still 999", x.count(7), 999);
        Check.says("No STATUS.");
        x.years(0, 1);
        RoadWheels none = new RoadWheels();
        none.years(1, 1);
        for (int what = 0; what < 5; what++) {
            due("status(" + what + ")", x.status(what), 0);
            due("status(" + what + ") without a COUNTY", none.status(what), 0);
        }
        Check.says("Each DAY with what is ahead of it is one ACT.");
        Look look = new Look();
        due("ACTS", busyYears(9, 0).count(11), 9);
        due("40 at most", busyYears(41, 0).count(11), 40);
        for (int undone = 1; undone <= 9; undone++) {
            int left = undone;
            look.alike("UNDONE", () -> busyYears(9, left), () -> busyYears(9 - left, 0));
        }
        look.alike("40 UNDONE", () -> busyYears(60, 40), () -> busyYears(20, 0), "count(11)");
    }

    private static RoadWheels busyYears(int n, int undone) {
        RoadWheels x = Check.county("sh4;p;p;p;r;ra1b2;ra2b0;w;w;ws1", "012", "20", "1201", "10");
        x.flood(8);
        x.years(n, 99);
        for (int i = 0; i < undone; i++) {
            x.undo();
        }
        return x;
    }

    // promises 39, 40

    private static RoadWheels busy() {
        RoadWheels x = Check.lawful("y:2+n/9+r", "sh9k99;p;p;pc0;p;r;ra1b2;ra2b3;rb3;w;ws1;ws2", "010101010101", "1230", "230123");
        x.flood(7);
        x.puts(0, 0);
        x.puts(1, 1);
        x.years(9, 12);
        x.days(60);
        x.puts(2, 2);
        x.years(1, 5);
        x.bars(1);
        x.days(1);
        return x;
    }

    private static void moveOn(RoadWheels x) {
        x.bars(2);
        x.give(9);
        x.carries(0, Check.wheels(x, 0, 0) == 3 ? 2 : 3);
        x.years(60, 8);
        x.days(60);
        x.years(30, 4);
    }

    private static RoadWheels imaged(boolean back) {
        RoadWheels x = busy();
        x.image();
        if (back) {
            moveOn(x);
            x.back();
        }
        return x;
    }

    private static RoadWheels backTwice() {
        RoadWheels x = imaged(true);
        moveOn(x);
        x.back();
        return x;
    }

    private static RoadWheels undoneBehindBack(int n) {
        RoadWheels x = imaged(true);
        x.days(n);
        for (int i = 0; i < n; i++) {
            x.undo();
        }
        return x;
    }

    private static void images() {
        Check.says("An IMAGE keeps where SETS are, their WAYS and how far they are in them, what is closed,"
            + " how often ROADS were GONE, CALLS, COINS, the DAY, the LOG; BACK: they are so again");
        Look look = new Look();
        look.alike("an IMAGE changes nothing", () -> imaged(false), YearEdgesTest::busy);
        look.alike("BACK", () -> imaged(true), YearEdgesTest::busy, "count(11)");
        look.alike("BACK again", YearEdgesTest::backTwice, YearEdgesTest::busy, "count(11)");
        look.alike("40 DAYS UNDONE behind BACK", () -> undoneBehindBack(40), YearEdgesTest::busy, "count(11)");
        due("the LOG is long", imaged(true).count(10), 60);
        Check.says("(no ACT can be UNDONE then).");
        RoadWheels x = imaged(true);
        due("none", x.count(11), 0);
        due("undo", x.undo(), NONE);
        x.give(1);
        due("one that came then", x.undo(), 0);
        due("and no other", x.undo(), NONE);
        RoadWheels y = imaged(false);
        due("an IMAGE is no ACT", y.undo(), 39);
        due("UNDONE behind it: the DAY", y.count(7), 70);
        due("BACK to it", y.back(), 71);
    }

    private static void imageAnswers() {
        Check.says("`int image()`: An IMAGE (instead of the one ahead): the DAY. NONE: no COUNTY.");
        due("no COUNTY", new RoadWheels().image(), NONE);
        RoadWheels x = Check.county("sk5;p;p;r;w", "01");
        due("DAY 0", x.image(), 0);
        x.days(7);
        due("DAY 7", x.image(), 7);
        x.days(60);
        due("instead of the one ahead", x.back(), 7);
        due("the same again", x.back(), 7);
        Check.says("`int back()`: BACK: the DAY. NONE: no IMAGE of this COUNTY.");
        due("the DAY", x.count(7), 7);
        due("none", Check.county("p;p;r;w").back(), NONE);
        due("no COUNTY", new RoadWheels().back(), NONE);
        Check.tell(x, 0, "sk5;p;p;r;w");
        due("of another COUNTY", x.back(), NONE);
        x.days(3);
        due("still none", x.back(), NONE);
        due("nothing went back", x.count(7), 3);
        due("ACTS are left", x.undo(), 2);
        due("one of this", x.image(), 2);
        due("to it", x.back(), 2);
        RoadWheels left = Check.county("sk5;p;p;r;w", "01");
        left.image();
        left.flood(9);
        left.seen(0, 1, 1, true);
        left.law(Check.tell(left, 1, "y:9"));
        Check.tell(left, 2, "10");
        left.puts(5, 5);
        Check.feed(left, "abc");
        left.back();
        int[] want = {2, 1, 1, 1, 2, 3, 0, 0, 9, 1, 0, 0};
        for (int what = 0; what < want.length; what++) {
            due("what an IMAGE does not keep is left: count(" + what + ")", left.count(what), want[what]);
        }
        due("STATUS is left", left.status(0), 1);
    }

    // promise 41

    private static void counts() {
        Check.says("`int count(int what)`: 0 PLACES, 1 ROADS, 2 SETS, 3 LAWS, 4 WAYS, 5 bytes of the TAPE,"
            + " 6 the LAW that holds (NONE), 7 the DAY, 8 FLOOD, 9 SEEN, 10 how long the LOG is, 11 ACTS that can be UNDONE.");
        RoadWheels x = Check.county("p;p;p;p;p;p;p;" + TWELVE + ";w;w;w;w", "01", "02", "03", "04");
        for (int law = 0; law < 4; law++) {
            Check.tell(x, 1, "y:1");
        }
        x.law(3);
        x.flood(9);
        for (int i = 0; i < 10; i++) {
            x.seen(0, 0, 1, true);
        }
        for (int i = 0; i < 17; i++) {
            x.days(Math.min(60, 999 - x.count(7)));
        }
        Check.feed(x, Check.times(240, "x", ""));
        int[] most = {7, 12, 4, 4, 4, 240, 3, 999, 9, 10, 60, 40};
        for (int what = 0; what < most.length; what++) {
            due("count(" + what + ")", x.count(what), most[what]);
        }
        Check.says("HIDDEN for others.");
        for (int what : new int[] {12, -1, LOW, HIGH}) {
            due("count(" + what + ")", x.count(what), Check.HIDDEN);
            due("count(" + what + ") without a COUNTY", new RoadWheels().count(what), Check.HIDDEN);
        }
    }

    public static void main(String[] args) {
        flood();
        drawnFloods();
        drawnPuts();
        howManyYears();
        images();
        imageAnswers();
        counts();
        Check.finish();
    }
}
