import java.util.HashMap;
import java.util.Map;

/**
 * What is refused: each such call, in states in which there is something to be spoilt, answers as
 * told, and an object with it answers all that one without it does, but for STATUS; so it does
 * when ACTS are UNDONE, behind BACK, with each LAW, with the TAPE taken as each sort of TEXT.
 */
public final class RefusedTest {
    private static final int NONE = Check.NONE;
    private static final int HIDDEN = Check.HIDDEN;
    private static final int NO_STATUS = -1;
    private static final int[] FAR_OFF = {Integer.MIN_VALUE, -1000000, -2, 1000000, Integer.MAX_VALUE};

    private static final Look LOOK = new Look();
    private static final Map<String, long[]> BEFORE = new HashMap<>();

    private static String stateName = "";
    private static Look.Make state;

    /** What is looked at behind a call, too; each goes on from an object of its own. */
    private static final String[] THEN_NAMES = {"as it is", "one UNDONE", "all UNDONE", "BACK", "a DAY later",
        "as a COUNTY", "as a LAW", "as a WAY", "no LAW", "LAW 0", "LAW 1", "LAW 2", "LAW 3"};

    private static void then(RoadWheels x, int what) {
        switch (what) {
            case 0:
                break;
            case 1:
                x.undo();
                break;
            case 2:
                for (int i = 0; i < 41; i++) {
                    x.undo();
                }
                break;
            case 3:
                x.back();
                break;
            case 4:
                x.days(1);
                break;
            case 5:
            case 6:
            case 7:
                x.text(what - 5);
                break;
            default:
                x.law(what - 9);
                break;
        }
    }

    private static RoadWheels later(int what, Look.Ask call) {
        RoadWheels x = state.make();
        call.of(x);
        then(x, what);
        return x;
    }

    private static long nothing(RoadWheels x) {
        return 0;
    }

    private static void in(String name, Look.Make make) {
        stateName = name;
        state = make;
    }

    private static void refused(String name, long answer, int status, Look.Ask call) {
        String what = stateName + ", " + name;
        Check.due(what, call.of(state.make()), answer);
        for (int then = 0; then < THEN_NAMES.length; then++) {
            int next = then;
            long[] before = BEFORE.computeIfAbsent(stateName + then, key -> LOOK.answers(() -> later(next, RefusedTest::nothing)));
            LOOK.alike(what + ", " + THEN_NAMES[then], LOOK.answers(() -> later(next, call)), before, "status");
        }
        RoadWheels with = state.make();
        RoadWheels without = state.make();
        call.of(with);
        for (int i = 0; i < 5; i++) {
            Check.due(what + ", status(" + i + ")", with.status(i), without.status(i) + (i == status ? 1 : 0));
        }
    }

    private static void refused(String name, long answer, Look.Ask call) {
        refused(name, answer, NO_STATUS, call);
    }

    // states

    private static RoadWheels noCounty() {
        RoadWheels x = new RoadWheels();
        Check.tell(x, 1, "y:l+1");
        x.law(0);
        Check.tell(x, 2, "01");
        Check.tell(x, 2, "10");
        x.flood(4);
        Check.feed(x, "012");
        return x;
    }

    /** 5 PLACES, 6 ROADS, 3 SETS, 2 LAWS, 3 WAYS, an IMAGE, SEEN, some ACTS, a WAY on the TAPE. */
    private static RoadWheels busy() {
        String county = "sh9k99;p;pc4;p;p;pc0;r;ra1b2;ra2b3l1;ra3b4;ra4b0;rb2l9;w;ws1;ws2";
        RoadWheels x = Check.lawful("y:l+n+r", county, "012341", "1234", "10");
        Check.tell(x, 1, "y:d+y");
        x.puts(0, 0);
        x.puts(9, 9);
        x.days(3);
        x.seen(0, 2, 3, false);
        x.bars(1);
        x.image();
        x.flood(7);
        x.years(5, 3);
        x.puts(1, 1);
        x.give(3);
        Check.feed(x, "2120");
        return x;
    }

    /** All that can be full is: PLACES, ROADS, SETS, LAWS, WAYS, SEEN, LOG, ACTS, the TAPE. */
    private static RoadWheels full() {
        String county = "sh24k99;p;p;p;p;p;p;p;r;ra1b2;ra2b3;ra3b4;ra4b5;ra5b6;ra6b0;rb2;rb3;rb4;rb5;ra6b1;w;ws1;ws2;ws6";
        RoadWheels x = Check.county(county, "0123456", "1010", "2012", "60");
        for (String law : new String[] {"y:l", "y:l+d", "y:n+1", "y:l>3?1;y:r+y"}) {
            Check.tell(x, 1, law);
        }
        x.law(2);
        for (int i = 0; i < 10; i++) {
            x.seen(i % 4, i % 7, 1 + i % 9, i % 2 == 0);
        }
        x.puts(3, 3);
        x.days(50);
        x.image();
        x.puts(0, 0);
        x.years(60, 17);
        Check.feed(x, Check.times(118, "0 ", "") + "   9");
        return x;
    }

    private static RoadWheels poor() {
        RoadWheels x = Check.county("sk6;pc0;p;r;ra1b0;w;ws1", "01", "10");
        x.puts(0, 0);
        x.bars(0);
        x.bars(1);
        x.image();
        x.bars(0);
        Check.feed(x, "y:l");
        return x;
    }

    private static RoadWheels lastDay() {
        RoadWheels x = Check.county("sk6;p;p;r;w", "0101");
        for (int i = 0; i < 16; i++) {
            x.days(60);
        }
        x.image();
        x.puts(0, 0);
        x.days(39);
        return x;
    }

    private static RoadWheels rich() {
        RoadWheels x = Check.county("sk99;p;p;r;w", "0101");
        for (int i = 0; i < 18; i++) {
            x.give(50);
        }
        return x;
    }

    // what is refused

    private static void withoutCounty() {
        Check.says("What is refused answers as told and changes nothing but STATUS.");
        in("no COUNTY", RefusedTest::noCounty);
        refused("text(0)", NONE, x -> x.text(0));
        refused("text(1)", NONE, x -> x.text(1));
        refused("rule(0)", NONE, x -> x.rule(0));
        refused("road(0, 0)", NONE, x -> x.road(0, 0));
        refused("wheels(0, 0)", Check.THROWN, x -> Check.wheels(x, 0, 0));
        refused("spot(0, 0)", NONE, x -> x.spot(0, 0));
        refused("law(1)", 0, x -> x.law(1) ? 1 : 0);
        refused("days(1)", NONE, 0, x -> x.days(1));
        refused("days(0)", NONE, 0, x -> x.days(0));
        refused("puts(0, 0)", NONE, 0, x -> x.puts(0, 0));
        refused("carries(0, 0)", NONE, 0, x -> x.carries(0, 0));
        refused("bars(0)", NONE, 0, x -> x.bars(0));
        refused("give(1)", NONE, 0, x -> x.give(1));
        refused("give(51)", NONE, 0, x -> x.give(51));
        refused("years(1, 1)", NONE, x -> x.years(1, 1));
        refused("undo()", NONE, x -> x.undo());
        refused("log(0, 0)", NONE, x -> x.log(0, 0));
        refused("far(0, 0)", NONE, x -> x.far(0, 0));
        refused("row(0, 0)", NONE, x -> x.row(0, 0));
        refused("where(0, 0)", NONE, x -> x.where(0, 0));
        refused("done(0)", NONE, x -> x.done(0));
        refused("parted(0, 1)", NONE, x -> x.parted(0, 1));
        refused("joined(0, 1)", NONE, x -> x.joined(0, 1));
        refused("seen(0, 0, 1, true)", NONE, x -> x.seen(0, 0, 1, true));
        refused("fits(0)", NONE, x -> x.fits(0));
        refused("ask(0)", NONE, x -> x.ask(0));
        refused("tour(0, 1, 0)", NONE, x -> x.tour(0, 1, 0));
        refused("doors(1, 0)", NONE, x -> x.doors(1, 0));
        refused("game(0, 1, 0, 0, 0)", HIDDEN, x -> x.game(0, 1, 0, 0, 0));
        refused("rests(0, 1, -1)", NONE, x -> x.rests(0, 1, -1));
        refused("odds(0, 0, 0)", NONE, x -> x.odds(0, 0, 0));
        refused("dead(0)", NONE, x -> x.dead(0));
        refused("shares(0, 0)", NONE, x -> x.shares(0, 0));
        refused("most(0)", NONE, x -> x.most(0));
        refused("image()", NONE, x -> x.image());
        refused("back()", NONE, x -> x.back());
    }

    private static void texts() {
        in("busy", RefusedTest::busy);
        refused("end(-1)", 0, x -> x.end(-1) ? 1 : 0);
        refused("end(5)", 0, x -> x.end(5) ? 1 : 0);
        refused("fault(-1)", -2, x -> x.fault(-1));
        refused("fault(3)", -2, x -> x.fault(3));
        refused("text(-1)", NONE, x -> x.text(-1));
        refused("text(3)", NONE, x -> x.text(3));
        refused("text(0), a FAULT", NONE, x -> x.text(0));
        refused("text(1), a FAULT", NONE, x -> x.text(1));
        refused("rule(2)", NONE, x -> x.rule(2));
        refused("road(6, 0)", NONE, x -> x.road(6, 0));
        refused("road(0, 7)", NONE, x -> x.road(0, 7));
        refused("wheels(3, 0)", Check.THROWN, x -> Check.wheels(x, 3, 0));
        refused("wheels(0, 3)", Check.THROWN, x -> Check.wheels(x, 0, 3));
        refused("spot(5, 0)", NONE, x -> x.spot(5, 0));
        refused("spot(0, 2)", NONE, x -> x.spot(0, 2));
        refused("law(2)", 0, x -> x.law(2) ? 1 : 0);
        refused("law(-2)", 0, x -> x.law(-2) ? 1 : 0);
        refused("walked(3, 0)", NONE, x -> x.walked(3, 0));
        refused("walked(0, 6)", NONE, x -> x.walked(0, 6));
        refused("flood(-1)", 0, x -> x.flood(-1) ? 1 : 0);
        refused("flood(10)", 0, x -> x.flood(10) ? 1 : 0);
        refused("flood(7), it is so", 0, x -> x.flood(7) ? 1 : 0);
        in("full", RefusedTest::full);
        refused("a byte more", NONE, x -> x.feed(0, 0, 0, 0, 1));
        refused("twenty bytes more", NONE, x -> x.feed(-1, -1, -1, -1, -1));
        refused("end(241)", 0, x -> x.end(241) ? 1 : 0);
        refused("a fifth LAW", NONE, x -> fifth(x, 1));
        refused("a fifth WAY", NONE, x -> fifth(x, 2));
        refused("an eleventh SEEN", NONE, x -> x.seen(0, 0, 1, true));
        refused("log(60, 0)", NONE, x -> x.log(60, 0));
    }

    /** The TAPE is what it was then, so that only what the fifth one would change is left. */
    private static long fifth(RoadWheels x, int sort) {
        x.end(0);
        long answer = Check.tell(x, sort, sort == 1 ? "y:l" : "01");
        x.end(0);
        Check.feed(x, Check.times(118, "0 ", "") + "   9");
        return answer;
    }

    private static void byHand() {
        in("busy", RefusedTest::busy);
        for (int n : new int[] {0, 61, -1}) {
            refused("days(" + n + ")", NONE, 1, x -> x.days(n));
            refused("give(" + (n == 61 ? 51 : n) + ")", NONE, 1, x -> x.give(n == 61 ? 51 : n));
            refused("years(" + n + ", 1)", NONE, x -> x.years(n, 1));
        }
        refused("puts(3, 0)", NONE, 0, x -> x.puts(3, 0));
        refused("puts(-1, 9)", NONE, 0, x -> x.puts(-1, 9));
        refused("puts(0, 3)", NONE, 1, x -> x.puts(0, 3));
        refused("puts(0, -1)", NONE, 1, x -> x.puts(0, -1));
        refused("puts(2, 0)", NONE, 2, x -> x.puts(2, 0));
        refused("carries(3, 0)", NONE, 0, x -> x.carries(3, 0));
        refused("carries(-1, 9)", NONE, 0, x -> x.carries(-1, 9));
        refused("carries(0, 5)", NONE, 1, x -> x.carries(0, 5));
        refused("carries(0, -1)", NONE, 1, x -> x.carries(0, -1));
        refused("carries(2, 2)", NONE, 2, x -> x.carries(2, Check.wheels(x, 2, 0)));
        refused("bars(6)", NONE, 0, x -> x.bars(6));
        refused("bars(-1)", NONE, 0, x -> x.bars(-1));
        in("poor", RefusedTest::poor);
        refused("puts(0, 0)", NONE, 3, x -> x.puts(0, 0));
        refused("puts(1, 1)", NONE, 3, x -> x.puts(1, 1));
        refused("puts(0, 1)", NONE, 2, x -> x.puts(0, 1));
        refused("carries(0, 1)", NONE, 3, x -> x.carries(0, 1));
        refused("carries(0, 0)", NONE, 2, x -> x.carries(0, 0));
        refused("bars(0)", NONE, 3, x -> x.bars(0));
        refused("bars(2)", NONE, 0, x -> x.bars(2));
        in("the last DAY", RefusedTest::lastDay);
        refused("days(1)", NONE, 4, x -> x.days(1));
        refused("days(60)", NONE, 4, x -> x.days(60));
        refused("days(61)", NONE, 1, x -> x.days(61));
        refused("years(1, 1)", NONE, x -> x.years(1, 1));
        refused("years(60, 1)", NONE, x -> x.years(60, 1));
        in("rich", RefusedTest::rich);
        refused("give(1)", NONE, 1, x -> x.give(1));
        refused("back()", NONE, x -> x.back());
        in("full", RefusedTest::full);
        refused("puts(4, 0)", NONE, 0, x -> x.puts(4, 0));
        refused("puts(0, 4)", NONE, 1, x -> x.puts(0, 4));
        refused("carries(0, 7)", NONE, 1, x -> x.carries(0, 7));
        refused("bars(12)", NONE, 0, x -> x.bars(12));
    }

    private static void asked() {
        in("busy", RefusedTest::busy);
        refused("status(5)", NONE, x -> x.status(5));
        refused("log(8, 0)", NONE, x -> x.log(8, 0));
        refused("log(0, 3)", NONE, x -> x.log(0, 3));
        refused("far(0, 5)", NONE, x -> x.far(0, 5));
        refused("row(5, 0)", NONE, x -> x.row(5, 0));
        refused("where(0, 61)", NONE, x -> x.where(0, 61));
        refused("where(3, 0)", NONE, x -> x.where(3, 0));
        refused("done(3)", NONE, x -> x.done(3));
        refused("parted(1, 1)", NONE, x -> x.parted(1, 1));
        refused("parted(0, 5)", NONE, x -> x.parted(0, 5));
        refused("joined(1, 1)", NONE, x -> x.joined(1, 1));
        refused("joined(5, 0)", NONE, x -> x.joined(5, 0));
        refused("seen(3, 0, 1, true)", NONE, x -> x.seen(3, 0, 1, true));
        refused("seen(0, 5, 1, true)", NONE, x -> x.seen(0, 5, 1, true));
        refused("seen(0, 0, 0, true)", NONE, x -> x.seen(0, 0, 0, true));
        refused("seen(0, 0, 10, true)", NONE, x -> x.seen(0, 0, 10, true));
        refused("fits(3)", NONE, x -> x.fits(3));
        refused("ask(3)", NONE, x -> x.ask(3));
        refused("tour(0, 32, 0)", NONE, x -> x.tour(0, 32, 0));
        refused("tour(5, 1, 0)", NONE, x -> x.tour(5, 1, 0));
        refused("tour(0, 1, 2)", NONE, x -> x.tour(0, 1, 2));
        refused("doors(32, 0)", NONE, x -> x.doors(32, 0));
        refused("doors(1, 2)", NONE, x -> x.doors(1, 2));
        refused("game(0, 0, 0, 0, 0)", HIDDEN, x -> x.game(0, 0, 0, 0, 0));
        refused("game(0, 1, 7, 0, 0)", HIDDEN, x -> x.game(0, 1, 7, 0, 0));
        refused("rests(1, 1, -1)", NONE, x -> x.rests(1, 1, -1));
        refused("rests(0, 1, 49)", NONE, x -> x.rests(0, 1, 49));
        refused("odds(0, 1, 101)", NONE, x -> x.odds(0, 1, 101));
        refused("odds(0, 5, 1)", NONE, x -> x.odds(0, 5, 1));
        refused("dead(5)", NONE, x -> x.dead(5));
        refused("shares(5, 1)", NONE, x -> x.shares(5, 1));
        refused("shares(0, 1000)", NONE, x -> x.shares(0, 1000));
        refused("most(10)", NONE, x -> x.most(10));
        refused("count(12)", HIDDEN, x -> x.count(12));
    }

    private static void farOff() {
        in("busy", RefusedTest::busy);
        for (int n : FAR_OFF) {
            refused("days(" + n + ")", NONE, 1, x -> x.days(n));
            refused("give(" + n + ")", NONE, 1, x -> x.give(n));
            refused("years(" + n + ", 0)", NONE, x -> x.years(n, 0));
            refused("puts(" + n + ", 0)", NONE, 0, x -> x.puts(n, 0));
            refused("puts(0, " + n + ")", NONE, 1, x -> x.puts(0, n));
            refused("carries(" + n + ", 0)", NONE, 0, x -> x.carries(n, 0));
            refused("carries(0, " + n + ")", NONE, 1, x -> x.carries(0, n));
            refused("bars(" + n + ")", NONE, 0, x -> x.bars(n));
            refused("end(" + n + ")", 0, x -> x.end(n) ? 1 : 0);
            refused("text(" + n + ")", NONE, x -> x.text(n));
            refused("law(" + n + ")", 0, x -> x.law(n) ? 1 : 0);
            refused("flood(" + n + ")", 0, x -> x.flood(n) ? 1 : 0);
            refused("seen(0, 0, " + n + ", true)", NONE, x -> x.seen(0, 0, n, true));
        }
    }

    /** A twin is of no use if what was done to it can't be seen: each ACT is seen there. */
    private static void twinsTellActs() {
        in("busy", RefusedTest::busy);
        Look.Ask[] acts = {x -> x.days(1), x -> x.give(1), x -> x.bars(0), x -> x.puts(1, 1), x -> x.carries(2, 0),
            x -> x.years(1, 2), x -> x.undo(), x -> x.back(), x -> x.seen(1, 0, 4, true), x -> x.flood(3) ? 1 : 0,
            x -> x.law(1) ? 1 : 0, x -> x.end(3) ? 1 : 0, x -> x.text(2), x -> x.feed(1, 0, 0, 0, 0)};
        for (int i = 0; i < acts.length; i++) {
            Look.Ask act = acts[i];
            long[] with = LOOK.answers(() -> later(0, act));
            boolean alike = java.util.Arrays.equals(with, LOOK.answers(() -> later(0, RefusedTest::nothing)));
            Check.due("a twin tells act " + i, alike, false);
        }
    }

    public static void main(String[] args) {
        withoutCounty();
        texts();
        byHand();
        asked();
        farOff();
        twinsTellActs();
        Check.finish();
    }
}
