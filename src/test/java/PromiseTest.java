import java.lang.reflect.Method;
import java.lang.reflect.Modifier;

/** Each promise of the document: ordinary inputs, the edges that it names, wrong inputs. */
public final class PromiseTest {
    private static final int NONE = RoadWheels.NONE;
    private static final int HIDDEN = RoadWheels.HIDDEN;

    /**
     * PLACES 0 .. 4 (4 alone), ROADS 0: 0-1 4, 1: 1-2 4, 2: 0-2 11, 3: 2-3 1, 4: 0-1 5,
     * SETS at 0 and 2, 6 HOURS, 9 COINS.
     */
    private static final String HILLS = "sh6k9;p;pc3;pc5;pc0;pc1;r;ra1b2l4;ra0b2l9d9;ra2b3l1d0;rl5;w;ws2";
    /** A row of four PLACES, each ROAD of 4 HOURS, 12 HOURS a DAY. */
    private static final String LINE = "p;p;p;p;ra0b1d0;ra1b2d0;ra2b3d0;w";

    private static void due(String what, long got, long want) {
        Check.due(what, got, want);
    }

    private static void due(String what, boolean got, boolean want) {
        Check.due(what, got, want);
    }

    private static void faultDue(int sort, String text, int want) {
        RoadWheels x = new RoadWheels();
        Check.feed(x, text);
        due("fault(" + sort + ") of \"" + text + "\"", x.fault(sort), want);
        due("count(5) behind fault(" + sort + ") of \"" + text + "\"", x.count(5), text.length());
    }

    private static int lawOn(String county, String law, int road) {
        RoadWheels x = Check.county(county);
        due("text(1) of " + law, Check.tell(x, 1, law), 0);
        due("law(0)", x.law(0), true);
        return x.road(road, 4);
    }

    private static void face() {
        int methods = 0;
        for (Method method : RoadWheels.class.getDeclaredMethods()) {
            boolean open = Modifier.isPublic(method.getModifiers());
            methods += open ? 1 : 0;
            due(method + " is public or private", open || Modifier.isPrivate(method.getModifiers()), true);
        }
        due("public methods", methods, 40);
        due("public constructors", RoadWheels.class.getConstructors().length, 1);
        due("public constants", RoadWheels.class.getFields().length, 2);
        due("final", Modifier.isFinal(RoadWheels.class.getModifiers()), true);
    }

    private static void newObject() {
        RoadWheels x = new RoadWheels();
        int[] counts = {0, 0, 0, 0, 0, 0, NONE, 0, 2, 0, 0, 0};
        for (int what = 0; what < counts.length; what++) {
            due("new count(" + what + ")", x.count(what), counts[what]);
        }
        for (int what = 0; what < 5; what++) {
            due("new status(" + what + ")", x.status(what), 0);
        }
        due("NONE", NONE, -1);
        due("HIDDEN", HIDDEN, -1000000);
        due("new most(0)", x.most(0), NONE);
        due("new seen", x.seen(0, 0, 1, true), NONE);
        due("new log", x.log(0, 0), NONE);
    }

    private static void tape() {
        RoadWheels x = new RoadWheels();
        due("feed of nothing", x.feed(0, 0, 0, 0, 0), 0);
        due("feed highest first", x.feed(0x30000000, 0x00310000, 0x00003200, 0x00000033, 0), 4);
        due("text(2)", x.text(2), 0);
        for (int i = 0; i < 4; i++) {
            due("walked(0, " + i + ")", x.walked(0, i), i);
        }
        for (int i = 1; i <= 12; i++) {
            due("feed " + i, x.feed(-1, -1, -1, -1, -1), 20 * i);
        }
        due("feed beyond 240", x.feed(1, 0, 0, 0, 0), NONE);
        due("feed of none at 240", x.feed(0, 0, 0, 0, 0), 240);
        due("count(5)", x.count(5), 240);
        due("end(241)", x.end(241), false);
        due("end(-1)", x.end(-1), false);
        due("end(240)", x.end(240), true);
        due("end(239)", x.end(239), true);
        due("feed of two at 239", x.feed(0x101, 0, 0, 0, 0), NONE);
        due("count(5) behind it", x.count(5), 239);
        due("feed of one at 239", x.feed(0, 0, 0, 0, 0x100), 240);
        due("end(3)", x.end(3), true);
        due("count(5) at 3", x.count(5), 3);
        due("fault of byte 255", x.fault(2), 0);
        due("end(0)", x.end(0), true);
        due("end(0) again", x.end(0), true);
        due("end(1) of none", x.end(1), false);
    }

    private static void countyFaults() {
        faultDue(3, "p;p;r;w", -2);
        faultDue(-1, "p;p;r;w", -2);
        faultDue(0, "p;p;r;w", NONE);
        faultDue(0, "w;r;p;p", NONE);
        faultDue(0, "  s  k 99  h 1 ; p c 0 ; pc09 ; r d 9 l 01 b 1 a 0 ; w s 1  ", NONE);
        faultDue(0, "", 0);
        faultDue(0, "   ", 3);
        faultDue(0, "p;p;r;w;", 8);
        faultDue(0, ";", 0);
        faultDue(0, "p;;", 2);
        faultDue(0, "p;p;r", 5);
        faultDue(0, "p;p;w", 5);
        faultDue(0, "p;r;w", 5);
        faultDue(0, "p;p;r;ws2", 9);
        faultDue(0, "p;p;ra2;w ", 10);
        faultDue(0, "p;p;rb0;w", 9);
        faultDue(0, "p;p;p;p;p;p;p;r;w", NONE);
        faultDue(0, "p;p;p;p;p;p;p; p", 15);
        faultDue(0, "p;p;r;r;r;r;r;r;r;r;r;r;r;r;w", NONE);
        faultDue(0, "r;r;r;r;r;r;r;r;r;r;r;r;r", 24);
        faultDue(0, "p;p;r;w;w;w;w", NONE);
        faultDue(0, "w;w;w;w;w", 8);
        faultDue(0, "s;p;s", 4);
        faultDue(0, "sh", 2);
        faultDue(0, "sh ", 3);
        faultDue(0, "shk", 2);
        faultDue(0, "sh0", 2);
        faultDue(0, "sh00", 3);
        faultDue(0, "sh24k99;p;p;r;w", NONE);
        faultDue(0, "sh25;", 3);
        faultDue(0, "sh251", 4);
        faultDue(0, "sh001", 4);
        faultDue(0, "sk100", 4);
        faultDue(0, "sh1 2", 4);
        faultDue(0, "sh1h1", 3);
        faultDue(0, "sc1", 1);
        faultDue(0, "pc10", 3);
        faultDue(0, "pk1", 1);
        faultDue(0, "ra7", 2);
        faultDue(0, "ra70", 3);
        faultDue(0, "ra700", 4);
        faultDue(0, "rb7", 2);
        faultDue(0, "rl0", 2);
        faultDue(0, "rl10", 3);
        faultDue(0, "rd10", 3);
        faultDue(0, "rs1", 1);
        faultDue(0, "ws7", 2);
        faultDue(0, "ws06;", 5);
        faultDue(0, "wa1", 1);
        faultDue(0, "p p", 2);
        faultDue(0, "P", 0);
        faultDue(0, "1", 0);
        faultDue(0, "p;\t", 2);
        faultDue(0, "p;\u00ff", 2);
    }

    private static void lawFaults() {
        faultDue(1, "", 0);
        faultDue(1, "y", 1);
        faultDue(1, "y:", 2);
        faultDue(1, "x:1", 0);
        faultDue(1, "yy", 1);
        faultDue(1, "y:l", NONE);
        faultDue(1, " y : l + 12 * [ d - 1 ] / n ; y : c ? ", 36);
        faultDue(1, "y:l;", 4);
        faultDue(1, "y:l;y:d", NONE);
        faultDue(1, "y:l;l", 4);
        faultDue(1, "y:9999", NONE);
        faultDue(1, "y:99999", 6);
        faultDue(1, "y:1 2", 4);
        faultDue(1, "y:a", 2);
        faultDue(1, "y:-1", 2);
        faultDue(1, "y:l+", 4);
        faultDue(1, "y:l+*", 4);
        faultDue(1, "y:l?1", 3);
        faultDue(1, "y:l>1", 5);
        faultDue(1, "y:l>1;", 5);
        faultDue(1, "y:l>1?", 6);
        faultDue(1, "y:l>1?d", NONE);
        faultDue(1, "y:l>1?d>2", 7);
        faultDue(1, "y:l>1>2", 5);
        faultDue(1, "y:l>1)", 5);
        faultDue(1, "y:l>1&d<2|n=3?1;y:2", NONE);
        faultDue(1, "y:l>1&d?", 7);
        faultDue(1, "y:(l>1)?2", NONE);
        faultDue(1, "y:(l>1)", 7);
        faultDue(1, "y:(l>1);", 7);
        faultDue(1, "y:(l)>1", 4);
        faultDue(1, "y:(l>1)+1", 7);
        faultDue(1, "y:(l>1&(d<2|!n=1))&r=0?y", NONE);
        faultDue(1, "y:()", 3);
        faultDue(1, "y:!l>1?2", NONE);
        faultDue(1, "y:!l", 4);
        faultDue(1, "y:!l?", 4);
        faultDue(1, "y:!(l>1)?2", NONE);
        faultDue(1, "y:[l]", NONE);
        faultDue(1, "y:[l>1]", 4);
        faultDue(1, "y:[l", 4);
        faultDue(1, "y:[]", 3);
        faultDue(1, "y:[l]=d?1", NONE);
        faultDue(1, "y:l=!1", 4);
        faultDue(1, "y:l=(1", 4);
        faultDue(1, "y:[[[[[[l]]]]]]", NONE);
        faultDue(1, "y:[[[[[[[l", 8);
        faultDue(1, "y:((((((l>1))))))?1", NONE);
        faultDue(1, "y:(((((((l", 8);
        faultDue(1, "y:!!!!!!l>1?1", NONE);
        faultDue(1, "y:!!!!!!!l", 8);
        faultDue(1, "y:!(!(!([", 8);
        faultDue(1, "y:!(!(!(l>[", 10);
        faultDue(1, "y:!(!(![l]>1)", 13);
        faultDue(1, "y:!(!(![l]>1))&[[[[[[1]]]]]]=2?1", NONE);
        faultDue(1, "y:!(!(![[l", 8);
        faultDue(1, "y:!l=1&!!!!!!d=2?1", NONE);
    }

    private static void wayFaults() {
        faultDue(2, "", 0);
        faultDue(2, "0", 1);
        faultDue(2, " 0 ", 3);
        faultDue(2, "01", NONE);
        faultDue(2, " 9 9 ", NONE);
        faultDue(2, "012345678901", NONE);
        faultDue(2, "012345678901 ", NONE);
        faultDue(2, "0123456789012", 12);
        faultDue(2, "0123456789 0 1 x", 15);
        faultDue(2, "0a", 1);
        faultDue(2, "0;", 1);
    }

    private static void texts() {
        RoadWheels x = new RoadWheels();
        Check.feed(x, HILLS);
        due("text(3)", x.text(3), NONE);
        due("text(-1)", x.text(-1), NONE);
        due("text(1) of a county", x.text(1), NONE);
        due("the tape is left", x.count(5), HILLS.length());
        due("text(0)", x.text(0), 5);
        due("the tape is empty", x.count(5), 0);
        due("roads", x.count(1), 5);
        due("sets", x.count(2), 2);
        due("text(0) of nothing", x.text(0), NONE);
        for (int i = 0; i < 4; i++) {
            due("law " + i, Check.tell(x, 1, "y:l+" + i), i);
            due("way " + i, Check.tell(x, 2, "0" + i), i);
        }
        Check.feed(x, "y:l");
        due("a fifth law", x.text(1), NONE);
        due("its tape is left", x.count(5), 3);
        x.end(0);
        Check.feed(x, "00");
        due("a fifth way", x.text(2), NONE);
        due("its tape is left, too", x.count(5), 2);
        due("laws", x.count(3), 4);
        due("ways", x.count(4), 4);
    }

    private static void newCounty() {
        RoadWheels x = Check.county(HILLS, "0123");
        Check.tell(x, 1, "y:3");
        x.law(0);
        x.flood(7);
        x.puts(0, 0);
        x.days(2);
        x.bars(9);
        x.bars(0);
        x.seen(0, 0, 1, true);
        x.image();
        due("text(0) of another", Check.tell(x, 0, LINE), 4);
        int[] counts = {4, 3, 1, 1, 1, 0, 0, 0, 7, 0, 0, 0};
        for (int what = 0; what < counts.length; what++) {
            due("count(" + what + ") of another", x.count(what), counts[what]);
        }
        due("its coins", x.rule(1), 20);
        due("its hours", x.rule(0), 12);
        due("its closed roads", x.most(6), 0);
        due("its gone", x.road(0, 5), 0);
        due("its calls", x.spot(1, 1), 0);
        due("its sets on", x.most(7), 0);
        due("the law still holds", x.road(0, 4), 3);
        due("status is left", x.status(0), 1);
        due("no image of it", x.back(), NONE);
        due("no act of it", x.undo(), NONE);
        due("no log of it", x.log(0, 0), NONE);
    }

    private static void asTold() {
        RoadWheels x = Check.county(HILLS);
        due("rule(0)", x.rule(0), 6);
        due("rule(1)", x.rule(1), 9);
        due("rule(2)", x.rule(2), NONE);
        due("rule(-1)", x.rule(-1), NONE);
        int[] road = {0, 2, 9, 9, 11, 0, 0};
        for (int what = 0; what < road.length; what++) {
            due("road(2, " + what + ")", x.road(2, what), road[what]);
        }
        int[] usual = {0, 1, 4, 2, 4, 0, 0};
        for (int what = 0; what < usual.length; what++) {
            due("road(0, " + what + ")", x.road(0, what), usual[what]);
        }
        due("road(0, 7)", x.road(0, 7), NONE);
        due("road(0, -1)", x.road(0, -1), NONE);
        due("road(5, 0)", x.road(5, 0), NONE);
        due("road(-1, 0)", x.road(-1, 0), NONE);
        due("usual customers", x.spot(0, 0), 3);
        due("spot(2, 0)", x.spot(2, 0), 5);
        due("spot(2, 1)", x.spot(2, 1), 0);
        due("spot(2, 2)", x.spot(2, 2), NONE);
        due("spot(5, 0)", x.spot(5, 0), NONE);
        due("spot(-1, 0)", x.spot(-1, 0), NONE);
        due("usual hours", Check.county(LINE).rule(0), 12);
        due("usual coins", Check.county(LINE).rule(1), 20);
    }

    private static boolean wheelsThrows(RoadWheels x, int set, int what) {
        return Check.wheels(x, set, what) == Check.THROWN;
    }

    private static void wheels() {
        RoadWheels x = Check.county(HILLS, "0011");
        due("wheels(1, 0)", x.wheels(1, 0), 2);
        due("wheels(1, 1)", x.wheels(1, 1), NONE);
        due("wheels(1, 2)", x.wheels(1, 2), 0);
        x.puts(0, 0);
        due("wheels(0, 1) put", x.wheels(0, 1), 0);
        due("wheels(0, 2) put", x.wheels(0, 2), 1);
        due("wheels(2, 0)", wheelsThrows(x, 2, 0), true);
        due("wheels(-1, 0)", wheelsThrows(x, -1, 0), true);
        due("wheels(0, 3)", wheelsThrows(x, 0, 3), true);
        due("wheels(0, -1)", wheelsThrows(x, 0, -1), true);
        due("wheels(0, 2)", wheelsThrows(x, 0, 2), false);
        due("wheels of no county", wheelsThrows(new RoadWheels(), 0, 0), true);
    }

    private static void laws() {
        RoadWheels x = Check.county(HILLS);
        due("law(NONE)", x.law(NONE), true);
        due("law(0) of none", x.law(0), false);
        Check.tell(x, 1, "y:7");
        Check.tell(x, 1, "y:8");
        due("none holds at first", x.count(6), NONE);
        due("law(1)", x.law(1), true);
        due("law(1) again", x.law(1), true);
        due("law(2)", x.law(2), false);
        due("law(-2)", x.law(-2), false);
        due("count(6)", x.count(6), 1);
        due("road by law 1", x.road(2, 4), 8);
        due("law(NONE) then", x.law(NONE), true);
        due("road by none", x.road(2, 4), 11);
    }

    private static void worths() {
        String one = "p;pc5;rl3d2;w";
        due("letters", lawOn(one, "y:l+d*4", 0), 11);
        due("customers of both", lawOn(one, "y:c", 0), 8);
        due("held at 24", lawOn(one, "y:99", 0), 24);
        due("held at 1", lawOn(one, "y:1-5", 0), 1);
        due("0 without", lawOn(one, "y:l>9?20", 0), 1);
        due("first that holds", lawOn(one, "y:l>9?20;y:l=3?7;y:9", 0), 7);
        due("last without condition", lawOn(one, "y:l>9?20;y:l=4?7;y:9", 0), 9);
        due("clauses behind one without", lawOn(one, "y:5;y:9", 0), 5);
        due("left to right", lawOn(one, "y:20-5-4", 0), 11);
        due("terms first", lawOn(one, "y:2+3*4", 0), 14);
        due("brackets", lawOn(one, "y:[2+3]*4", 0), 20);
        due("times and by in order", lawOn(one, "y:7/2*3", 0), 9);
        due("by cuts towards 0", lawOn(one, "y:10+[1-8]/2", 0), 7);
        due("by 0 gives 0", lawOn(one, "y:6+5/0", 0), 6);
        due("held above", lawOn(one, "y:9999*9999-9999*100", 0), 24);
        due("held above, to the last", lawOn(one, "y:9999*9999-[9999*100+95]", 0), 5);
        due("held below", lawOn(one, "y:[0-9999]*9999+9999*100+105", 0), 5);
        due("held in a sum", lawOn(one, "y:[9999*9999+7-9999*100-100]+3", 0), 3);
        due("not", lawOn(one, "y:!l=3?20;y:9", 0), 9);
        due("not not", lawOn(one, "y:!!l=3?20;y:9", 0), 20);
        due("not takes a unit", lawOn(one, "y:!l=4&d=9?20;y:9", 0), 9);
        due("and before or", lawOn(one, "y:l=3|d=9&d=8?20;y:9", 0), 20);
        due("brackets of conditions", lawOn(one, "y:(l=3|d=9)&d=8?20;y:9", 0), 9);
        due("less", lawOn(one, "y:l<4?20;y:9", 0), 20);
        due("less or alike is not less", lawOn(one, "y:l<3?20;y:9", 0), 9);
        due("more", lawOn(one, "y:l>2&!l>3?20;y:9", 0), 20);

        RoadWheels x = Check.county("sk50;p;p;p;rl2;rb2;w", "0101");
        Check.tell(x, 1, "y:1+n");
        Check.tell(x, 1, "y:1+r*5");
        Check.tell(x, 1, "y:1+y");
        x.puts(0, 0);
        x.days(1);
        x.law(0);
        due("n behind a day", x.road(0, 4), 4);
        due("n of another road", x.road(1, 4), 1);
        x.bars(1);
        x.law(1);
        due("r", x.road(0, 4), 6);
        x.law(2);
        due("y", x.road(0, 4), 2);
        x.days(60);
        x.days(38);
        due("y at 99", x.road(0, 4), 24);
        x.days(2);
        due("y modulo 100", x.road(0, 4), 2);
    }

    private static void walked() {
        RoadWheels x = Check.county(HILLS, " 0 9 9 1");
        due("walked(0, NONE)", x.walked(0, NONE), 4);
        due("walked(0, 1)", x.walked(0, 1), 9);
        due("walked(0, 3)", x.walked(0, 3), 1);
        due("walked(0, 4)", x.walked(0, 4), NONE);
        due("walked(0, -2)", x.walked(0, -2), NONE);
        due("walked(1, NONE)", x.walked(1, NONE), NONE);
        due("walked(-1, 0)", x.walked(-1, 0), NONE);
    }

    private static void dayOf() {
        RoadWheels x = Check.county("sh8k9;pc0;p;p;p;p;ra0b1l4d0;ra1b0l3d0;ra1b0l3d0;ra1b2l5d0;ra2b3l9d0;w;ws1", "0012", "123", "1900");
        x.puts(0, 0);
        x.puts(1, 1);
        due("coins behind two puts", x.rule(1), 3);
        due("days(1)", x.days(1), 1);
        due("set 0 came as far as hours do", x.wheels(0, 0), 2);
        due("set 0 has gone its way", x.wheels(0, 1), NONE);
        due("set 0 has none behind it", x.wheels(0, 2), 0);
        due("set 1 stopped", x.wheels(1, 0), 2);
        due("set 1 still has its way", x.wheels(1, 1), 1);
        due("set 1 behind it", x.wheels(1, 2), 2);
        due("a call where it is", x.spot(0, 1), 1);
        due("calls at 1", x.spot(1, 1), 1);
        due("calls at 2", x.spot(2, 1), 2);
        due("no coin where there are no customers", x.rule(1), 6);
        due("the shortest, lowest road", x.road(1, 5), 1);
        due("not the longer one", x.road(0, 5), 0);
        due("not the higher one", x.road(2, 5), 0);
        due("gone by both", x.road(3, 5), 2);
        due("log calls", x.log(0, 0), 4);
        due("log sets", x.log(0, 1), 2);
        due("log roads", x.log(0, 2), 0);
        x.carries(1, 1);
        due("carried: no way", x.wheels(1, 1), NONE);
        x.puts(1, 2);
        x.days(3);
        due("no road to a place that is not there", x.wheels(1, 2), 1);
        due("it stays where it is", x.wheels(1, 0), 1);

        RoadWheels y = Check.county("sk9h24;p;p;r;w", "0101010101");
        y.puts(0, 0);
        y.bars(0);
        y.days(1);
        due("a closed road stops it", y.wheels(0, 0), 0);
        due("log of closed roads", y.log(0, 2), 1);
        y.bars(0);
        y.days(1);
        due("open again", y.wheels(0, 2), 7);
        due("as many calls as hours do", y.log(0, 0), 6);
        y.days(1);
        due("its last place", y.wheels(0, 1), NONE);

        RoadWheels z = Check.county("sk9h8;p;p;rl1d0;rl4d0;w", "01010101");
        Check.tell(z, 1, "y:l+n*5");
        z.law(0);
        z.puts(0, 0);
        z.days(1);
        due("long as the day began", z.road(0, 5), 7);
        due("long behind it", z.road(0, 4), 24);
    }

    private static void bounds999() {
        RoadWheels x = Check.county("sk0h24;p;pc1;rl1d0;w", "010101010101");
        Check.tell(x, 1, "y:1");
        x.law(0);
        x.give(50);
        for (int i = 0; i < 60; i++) {
            x.puts(0, 0);
            x.days(1);
            x.carries(0, 0);
        }
        due("coins of 60 days", x.rule(1), 50 + 60 * (11 - 3 - 2));
        for (int i = 0; i < 31; i++) {
            x.puts(0, 0);
            x.days(1);
            x.carries(0, 0);
        }
        due("999 gone at most", x.road(0, 5), 999);
        due("calls", x.spot(1, 1), 91 * 6);
        x.give(50);
        due("coins", x.rule(1), 50 + 91 * 6 + 50);
        for (int i = 0; i < 7; i++) {
            x.give(50);
        }
        due("give above 999", x.give(4), NONE);
        due("give up to 999", x.give(3), 999);
        x.puts(0, 0);
        x.days(1);
        due("coins 999 at most", x.rule(1), 999);
        due("days(60) x 15", x.days(60), 152);
        for (int i = 0; i < 14; i++) {
            x.days(60);
        }
        due("the day", x.count(7), 992);
        due("beyond 999", x.days(8), NONE);
        due("its status", x.status(4), 1);
        due("years beyond 999", x.years(8, 1), NONE);
        due("where goes on", x.where(0, 60), 1);
        due("years up to 999", x.years(7, 1), 999);
        x.undo();
        due("up to 999", x.days(1), 999);
        due("none goes by then", x.days(1), NONE);
        due("no year then", x.years(1, 1), NONE);
        due("the day then", x.count(7), 999);
        due("where behind 999", x.where(0, 60), 1);
        due("log at 999", x.log(59, 0), 0);
    }

    private static void puts() {
        RoadWheels x = Check.county(HILLS, "0123", "2 1", "92", "02");
        due("puts(2, 9)", x.puts(2, 9), NONE);
        due("puts(-1, 0)", x.puts(-1, 0), NONE);
        due("status 0", x.status(0), 2);
        due("puts(0, 4)", x.puts(0, 4), NONE);
        due("puts(0, -1)", x.puts(0, -1), NONE);
        due("status 1", x.status(1), 2);
        due("puts(0, 1)", x.puts(0, 1), NONE);
        due("puts(0, 2)", x.puts(0, 2), NONE);
        due("status 2", x.status(2), 2);
        due("nothing was done", x.count(11), 0);
        due("puts(0, 0)", x.puts(0, 0), 4);
        due("coins", x.rule(1), 6);
        due("puts(1, 1)", x.puts(1, 1), 2);
        due("another way", x.puts(0, 3), 2);
        due("it has it", x.wheels(0, 1), 3);
        due("coins then", x.rule(1), 0);
        due("too few", x.puts(0, 0), NONE);
        due("status 3", x.status(3), 1);
        due("it has the other one still", x.wheels(0, 1), 3);
        due("where it does not begin, too few", x.puts(0, 1), NONE);
        due("the first of several", x.status(2), 3);
        due("standing there is no call", x.spot(0, 1), 0);
    }

    private static void carries() {
        RoadWheels x = Check.county(HILLS, "01");
        due("carries(2, 0)", x.carries(2, 9), NONE);
        due("status 0", x.status(0), 1);
        due("carries(0, 5)", x.carries(0, 5), NONE);
        due("carries(0, -1)", x.carries(0, -1), NONE);
        due("status 1", x.status(1), 2);
        due("it is there", x.carries(0, 0), NONE);
        due("status 2", x.status(2), 1);
        x.puts(0, 0);
        due("where it was", x.carries(0, 4), 0);
        due("where it is", x.wheels(0, 0), 4);
        due("it has no way", x.wheels(0, 1), NONE);
        due("none behind it", x.wheels(0, 2), 0);
        due("coins", x.rule(1), 4);
        due("set 1", x.carries(1, 0), 2);
        due("set 1 again", x.carries(1, 1), 0);
        due("too few", x.carries(1, 2), NONE);
        due("status 3", x.status(3), 1);
        due("no call", x.spot(4, 1), 0);
    }

    private static void barsAndGive() {
        RoadWheels x = Check.county("sk1;p;p;r;r;w");
        due("bars(2)", x.bars(2), NONE);
        due("bars(-1)", x.bars(-1), NONE);
        due("status 0", x.status(0), 2);
        due("bars(1)", x.bars(1), 1);
        due("it is closed", x.road(1, 6), 1);
        due("the other is not", x.road(0, 6), 0);
        due("no coin", x.bars(0), NONE);
        due("status 3", x.status(3), 1);
        due("give(0)", x.give(0), NONE);
        due("give(51)", x.give(51), NONE);
        due("status 1", x.status(1), 2);
        due("give(50)", x.give(50), 50);
        due("give(1)", x.give(1), 51);
        due("open again", x.bars(1), 0);
        due("coins", x.rule(1), 50);
        for (int i = 0; i < 18; i++) {
            x.give(50);
        }
        due("coins then", x.rule(1), 950);
        due("give above 999", x.give(50), NONE);
        due("status 1 then", x.status(1), 3);
        due("give to 999", x.give(49), 999);
        RoadWheels y = new RoadWheels();
        due("give without a county", y.give(99), NONE);
        due("days without a county", y.days(99), NONE);
        due("status 0 without a county", y.status(0), 2);
        due("status(5)", y.status(5), NONE);
        due("status(-1)", y.status(-1), NONE);
        due("days(0)", x.days(0), NONE);
        due("days(61)", x.days(61), NONE);
        due("status 1 of days", x.status(1), 5);
        due("days(60)", x.days(60), 60);
    }

    private static void flood() {
        RoadWheels x = new RoadWheels();
        due("flood(2) is so", x.flood(2), false);
        due("flood(10)", x.flood(10), false);
        due("flood(-1)", x.flood(-1), false);
        due("flood(9)", x.flood(9), true);
        due("count(8)", x.count(8), 9);
        due("flood(0)", x.flood(0), true);
        due("flood(0) again", x.flood(0), false);
    }

    /** The draws are worked out here by themselves. */
    private static void years() {
        RoadWheels x = Check.county("sk5h4;p;p;p;rb1d0;ra1b2d0;ra0b2d0;w;ws1", "012", "10", "12");
        due("years(0)", x.years(0, 1), NONE);
        due("years(61)", x.years(61, 1), NONE);
        due("no status of years", x.status(0) + x.status(1) + x.status(4), 0);
        x.flood(6);
        long seed = -987654321L;
        long drawn = seed;
        int closed = 0;
        int[] place = {0, 1};
        int[][] ways = {{0, 1, 2}, {1, 0}, {1, 2}};
        int[] way = {-1, -1};
        int[] step = {0, 0};
        int[][] ends = {{0, 1}, {1, 2}, {0, 2}};
        for (int day = 1; day <= 30; day++) {
            drawn = drawn * 6364136223846793005L + 1442695040888963407L;
            if ((drawn >>> 33) % 10 < 6) {
                drawn = drawn * 6364136223846793005L + 1442695040888963407L;
                closed ^= 1 << (drawn >>> 33) % 3;
            }
            drawn = drawn * 6364136223846793005L + 1442695040888963407L;
            int set = (int) ((drawn >>> 33) % 2);
            drawn = drawn * 6364136223846793005L + 1442695040888963407L;
            int put = (int) ((drawn >>> 33) % 4);
            if (put < 3 && way[set] < 0 && ways[put][0] == place[set]) {
                way[set] = put;
                step[set] = 1;
            }
            for (int i = 0; i < 2; i++) {
                if (way[i] >= 0) {
                    int to = ways[way[i]][step[i]];
                    for (int r = 0; r < 3; r++) {
                        boolean there = ends[r][0] + ends[r][1] == place[i] + to;
                        if (there && (closed >> r & 1) == 0) {
                            place[i] = to;
                            step[i]++;
                            break;
                        }
                    }
                    way[i] = step[i] == ways[way[i]].length ? -1 : way[i];
                }
            }
        }
        due("years(30)", x.years(30, seed), 30);
        due("closed behind years", x.most(6), closed);
        for (int i = 0; i < 2; i++) {
            due("set " + i + " behind years", x.wheels(i, 0), place[i]);
            due("its way", x.wheels(i, 1), way[i]);
        }
        due("a year's day is one act", x.count(11), 30);
        due("log of years", x.count(10), 30);
        int roads = x.log(0, 2);
        due("log of closed", roads, closed);
        int before = x.log(1, 2);
        due("undo of a year's day", x.undo(), 29);
        due("the flood, too", x.most(6), before);
        due("years without a county", new RoadWheels().years(1, 1), NONE);
    }

    private static void undo() {
        RoadWheels x = Check.county("sk99;p;p;p;r;ra1b2;w", "012", "10");
        due("undo of none", x.undo(), NONE);
        x.puts(0, 0);
        x.bars(1);
        x.give(5);
        x.days(2);
        x.carries(0, 2);
        due("acts", x.count(11), 6);
        due("undo carries", x.undo(), 5);
        due("where it was", x.wheels(0, 0), 1);
        due("its way again", x.wheels(0, 1), 0);
        due("undo a day", x.undo(), 4);
        due("the day", x.count(7), 1);
        due("the log", x.count(10), 1);
        due("undo a day more", x.undo(), 3);
        due("calls undone", x.spot(1, 1), 0);
        due("gone undone", x.road(0, 5), 0);
        due("where it was first", x.wheels(0, 0), 0);
        due("undo give", x.undo(), 2);
        due("undo bars", x.undo(), 1);
        due("open again", x.most(6), 0);
        due("undo puts", x.undo(), 0);
        due("coins again", x.rule(1), 99);
        due("undo of none then", x.undo(), NONE);
        x.puts(0, 7);
        due("a refused act is none", x.count(11), 0);
        due("status is not undone", x.status(1), 1);
        x.days(60);
        x.bars(0);
        x.days(40);
        due("40 at most", x.count(11), 40);
        due("log of 60", x.log(59, 2), 0);
        due("log of 40", x.log(39, 2), 1);
        due("log(60)", x.log(60, 0), NONE);
        for (int i = 39; i >= 0; i--) {
            due("undo to " + i, x.undo(), i);
        }
        due("no more", x.undo(), NONE);
        due("the day then", x.count(7), 60);
        due("closed still", x.most(6), 1);
        due("the log is whole again", x.count(10), 60);
        due("the first day's log", x.log(59, 2), 0);
        due("log(60) still none", x.log(60, 0), NONE);
    }

    private static void logRows() {
        RoadWheels x = Check.county("sk99h4;p;p;p;rd0;ra1b2d0;w", "0120");
        due("log(0, 0) of none", x.log(0, 0), NONE);
        x.puts(0, 0);
        x.days(1);
        x.bars(1);
        x.days(1);
        due("log(0, 0)", x.log(0, 0), 0);
        due("log(0, 1)", x.log(0, 1), 1);
        due("log(0, 2)", x.log(0, 2), 2);
        due("log(1, 0)", x.log(1, 0), 1);
        due("log(1, 2)", x.log(1, 2), 0);
        due("log(2, 0)", x.log(2, 0), NONE);
        due("log(-1, 0)", x.log(-1, 0), NONE);
        due("log(0, 3)", x.log(0, 3), NONE);
        due("log(0, -1)", x.log(0, -1), NONE);
    }

    private static void farAndRow() {
        RoadWheels x = Check.county(HILLS);
        due("far(0, 2)", x.far(0, 2), 8);
        due("far(3, 0)", x.far(3, 0), 9);
        due("far(4, 4)", x.far(4, 4), 0);
        due("far(0, 4)", x.far(0, 4), NONE);
        due("far(0, 5)", x.far(0, 5), NONE);
        due("far(-1, 0)", x.far(-1, 0), NONE);
        due("row(0, 3)", x.row(0, 3), 123);
        due("row(3, 0)", x.row(3, 0), 3210);
        due("row(4, 4)", x.row(4, 4), 4);
        due("row(0, 0)", x.row(0, 0), 0);
        due("row(4, 0)", x.row(4, 0), NONE);
        due("row(5, 5)", x.row(5, 5), NONE);
        x.bars(0);
        due("far by the other road", x.far(0, 2), 9);
        x.bars(4);
        due("far by the long one", x.far(0, 2), 11);
        due("row by the long one", x.row(0, 3), 23);
        RoadWheels y = Check.county("p;p;p;p;p;ra0b4l4d0;ra0b3l2d0;ra3b4l2d0;ra0b2l1d0;ra2b1l1d0;ra1b4l2d0;w");
        due("as few hours: fewest places", y.row(0, 4), 4);
        y.bars(0);
        due("then fewer places, not the least digits", y.row(0, 4), 34);
        RoadWheels z = Check.county("p;p;p;p;p;ra0b3l2d0;ra3b4l2d0;ra0b2l1d0;ra2b4l3d0;w");
        due("as many places: the least number", z.row(0, 4), 24);
        due("from the other end", z.row(4, 0), 420);
    }

    private static void whereAndDone() {
        RoadWheels x = Check.county("sk20h4;p;p;p;p;rd0;ra1b2d0;ra2b3d0;w;ws1", "0123", "10", "011");
        due("where without a way", x.where(0, 60), 0);
        due("done without a way", x.done(0), 0);
        x.puts(0, 0);
        due("where(0, 0)", x.where(0, 0), 0);
        due("where(0, 1)", x.where(0, 1), 1);
        due("where(0, 2)", x.where(0, 2), 2);
        due("where(0, 60)", x.where(0, 60), 3);
        due("done(0)", x.done(0), 3);
        due("where(0, 61)", x.where(0, 61), NONE);
        due("where(0, -1)", x.where(0, -1), NONE);
        due("where(2, 0)", x.where(2, 0), NONE);
        due("done(2)", x.done(2), NONE);
        due("done(-1)", x.done(-1), NONE);
        due("nothing went", x.count(7) + x.road(0, 5) + x.spot(1, 1), 0);
        x.bars(2);
        due("done behind a closed road", x.done(0), NONE);
        due("where then", x.where(0, 60), 2);

        Check.tell(x, 1, "y:4+n*9");
        x.law(0);
        x.puts(1, 1);
        due("who goes on the same day does no harm", x.where(0, 1), 1);
        x.undo();
        x.carries(0, 1);
        x.carries(0, 0);
        x.puts(0, 2);
        x.puts(1, 1);
        x.days(1);
        due("both went", x.road(0, 5), 2);

        RoadWheels y = Check.county("sk20h9;p;p;rd0;w", "01");
        Check.tell(y, 1, "y:60-y");
        y.law(0);
        y.puts(0, 0);
        due("not yet", y.where(0, 51), 0);
        due("when the law lets it", y.where(0, 52), 1);
        due("done then", y.done(0), 52);
        y.law(NONE);
        Check.tell(y, 1, "y:69-y");
        y.law(1);
        due("done within 60", y.done(0), NONE);
        Check.tell(y, 1, "y:68-y");
        y.law(2);
        due("done at 60", y.done(0), 60);
    }

    private static void partedAndJoined() {
        RoadWheels x = Check.county(HILLS);
        due("parted(0, 3)", x.parted(0, 3), 8);
        due("parted(0, 2)", x.parted(0, 2), 6);
        due("parted(0, 1)", x.parted(0, 1), 19);
        due("parted(0, 4)", x.parted(0, 4), 0);
        due("parted(0, 0)", x.parted(0, 0), NONE);
        due("parted(0, 5)", x.parted(0, 5), NONE);
        due("parted(-1, 0)", x.parted(-1, 0), NONE);
        due("joined(0, 3)", x.joined(0, 3), 0);
        due("joined(0, 4)", x.joined(0, 4), NONE);
        due("joined(0, 0)", x.joined(0, 0), NONE);
        due("joined(5, 0)", x.joined(5, 0), NONE);
        for (int road : new int[] {0, 1, 2, 4}) {
            x.bars(road);
        }
        due("parted already", x.parted(0, 1), 0);
        due("joined by one", x.joined(0, 1), 1);
        due("joined by one, not two", x.joined(0, 2), 4);
        due("joined by the least of several", x.joined(0, 3), 4);
        due("joined by the other", x.joined(1, 3), 2);
        RoadWheels y = Check.county("p;p;p;p;rb3;ra3b1;rb2;ra2b1;w");
        due("parted, least of several", y.parted(0, 1), 5);
        for (int road = 0; road < 4; road++) {
            y.bars(road);
        }
        due("joined, least of several", y.joined(0, 1), 3);
        y.bars(2);
        due("joined by what is closed alone", y.joined(0, 1), 8);
    }

    private static void sightings() {
        String county = "sk99h4;p;p;p;p;rd0;ra1b2d0;ra2b3d0;ra0b3d0;w;ws1";
        RoadWheels x = Check.county(county, "0123", "0321", "12", "0100");
        due("fits all that begin there", x.fits(0), 11);
        due("fits of set 1", x.fits(1), 4);
        due("fits(2)", x.fits(2), NONE);
        due("fits(-1)", x.fits(-1), NONE);
        due("ask: two alike at 1 and 2, none at 3", x.ask(0), 3);
        due("ask of one", x.ask(1), 1);
        due("ask(2)", x.ask(2), NONE);
        due("seen(2, ..)", x.seen(2, 0, 1, true), NONE);
        due("seen(.., 4, ..)", x.seen(0, 4, 1, true), NONE);
        due("seen n 0", x.seen(0, 0, 0, true), NONE);
        due("seen n 10", x.seen(0, 0, 10, true), NONE);
        due("seen(0, 1, 1, true)", x.seen(0, 1, 1, true), 1);
        due("fits then", x.fits(0), 9);
        due("the other set is not seen there", x.fits(1), 4);
        due("seen(0, 3, 9, false)", x.seen(0, 3, 9, false), 2);
        due("fits then one", x.fits(0), 8);
        x.carries(0, 2);
        x.bars(0);
        x.days(1);
        due("as told, not as it is now", x.fits(0), 8);
        due("seen(0, 0, 9, false)", x.seen(0, 0, 9, false), 3);
        due("nothing fits", x.fits(0), 0);
        due("ask of nothing", x.ask(0), NONE);
        for (int i = 4; i <= 10; i++) {
            due("seen " + i, x.seen(1, 1, 9, false), i);
        }
        due("an eleventh", x.seen(1, 1, 9, false), NONE);
        due("count(9)", x.count(9), 10);
        due("seen is no act: undo of the day", x.undo(), 2);
        due("seen is left", x.count(9), 10);

        RoadWheels y = Check.county(county, "0123", "0103", "0303", "0121");
        due("ask: three alike at 1, two at 2", y.ask(0), 2);
        Check.tell(y, 1, "y:9");
        y.law(0);
        due("by the law that holds none goes", y.ask(0), 1);
        RoadWheels z = Check.county("sh4;p;p;p;rd0;rb2d0;w", "01", "02");
        Check.tell(z, 1, "y:12-y");
        z.law(0);
        due("told apart at the last", z.ask(0), 9);
        y.seen(0, 0, 5, true);
        due("all fit", y.fits(0), 15);
        y.law(NONE);
        due("none fits without it", y.fits(0), 0);
    }

    private static void tour() {
        RoadWheels x = Check.county(HILLS);
        due("tour(0, 12, 0)", x.tour(0, 12, 0), 18);
        due("tour(0, 12, 1)", x.tour(0, 12, 1), 23);
        due("tour(0, 13, 1)", x.tour(0, 13, 1), 23);
        due("tour(3, 15, 1)", x.tour(3, 15, 1), 3012);
        due("tour(3, 15, 0)", x.tour(3, 15, 0), 18);
        due("tour(2, 4, 0)", x.tour(2, 4, 0), 0);
        due("tour(2, 4, 1)", x.tour(2, 4, 1), 2);
        due("tour(0, 16, 0)", x.tour(0, 16, 0), NONE);
        due("tour(4, 1, 0)", x.tour(4, 1, 0), NONE);
        due("tour(4, 16, 1)", x.tour(4, 16, 1), 4);
        due("tour(0, 0, 0)", x.tour(0, 0, 0), NONE);
        due("tour(0, 32, 0)", x.tour(0, 32, 0), NONE);
        due("tour(0, -1, 0)", x.tour(0, -1, 0), NONE);
        due("tour(5, 1, 0)", x.tour(5, 1, 0), NONE);
        due("tour(-1, 1, 0)", x.tour(-1, 1, 0), NONE);
        due("tour(0, 1, 2)", x.tour(0, 1, 2), NONE);
        due("tour(0, 1, -1)", x.tour(0, 1, -1), NONE);
        RoadWheels y = Check.county("p;p;p;p;rb3l1d0;ra3b2l1d0;ra2b1l1d0;rl1d0;w");
        due("round", y.tour(0, 14, 0), 4);
        due("round, the least", y.tour(0, 14, 1), 123);
        due("round, two of them", y.tour(0, 10, 0), 4);
    }

    private static void doors() {
        RoadWheels x = Check.county(HILLS);
        due("doors(8, 0)", x.doors(8, 0), 93);
        due("doors(8, 1)", x.doors(8, 1), 1);
        due("doors(10, 0)", x.doors(10, 0), 13);
        due("doors(10, 1)", x.doors(10, 1), 5);
        due("doors(16, 0)", x.doors(16, 0), 99);
        due("doors(16, 1)", x.doors(16, 1), 0);
        due("doors(24, 0)", x.doors(24, 0), 93);
        due("doors(5, 0)", x.doors(5, 0), 2);
        due("doors(5, 1)", x.doors(5, 1), 0);
        due("doors(0, 0)", x.doors(0, 0), NONE);
        due("doors(32, 0)", x.doors(32, 0), NONE);
        due("doors(-1, 0)", x.doors(-1, 0), NONE);
        due("doors(1, 2)", x.doors(1, 2), NONE);
        due("doors(1, -1)", x.doors(1, -1), NONE);
        due("doors without a county", new RoadWheels().doors(1, 0), NONE);
        RoadWheels y = Check.county("p;p;p;rd0;ra1b2d0;ra0b2d0;w;w;w;w");
        due("the least row of several", y.doors(6, 0), 1299);
        due("its hours", y.doors(6, 1), 8);
        due("as many as can", y.doors(7, 0), 129);
    }

    private static void games() {
        RoadWheels x = Check.county(HILLS);
        due("alone, the one", x.game(0, 1, 1, 2, 0), 5);
        due("alone, the other", x.game(0, 1, 1, 2, 1), 15);
        due("both there, the one", x.game(0, 1, 2, 2, 0), 3);
        due("both there, the other", x.game(0, 1, 2, 2, 1), 7);
        due("the other way round", x.game(1, 0, 2, 2, 0), 7);
        due("cut towards 0", x.game(0, 1, 3, 3, 0), -4);
        due("it can't come there", x.game(0, 1, 4, 4, 0), -9);
        due("no such place", x.game(0, 1, 6, 6, 1), -9);
        due("x 7", x.game(0, 1, 7, 0, 0), HIDDEN);
        due("y 7", x.game(0, 1, 0, 7, 0), HIDDEN);
        due("x -1", x.game(0, 1, -1, 0, 0), HIDDEN);
        due("y -1", x.game(0, 1, 0, -1, 0), HIDDEN);
        due("alike", x.game(1, 1, 0, 0, 0), HIDDEN);
        due("no such set", x.game(0, 2, 0, 0, 0), HIDDEN);
        due("no such what", x.game(0, 1, 0, 0, 2), HIDDEN);
        due("no such what below", x.game(0, 1, 0, 0, -1), HIDDEN);
        due("rests", x.rests(0, 1, NONE), 1);
        due("rests(0)", x.rests(0, 1, 0), 2);
        due("rests(1)", x.rests(0, 1, 1), NONE);
        due("rests(-2)", x.rests(0, 1, -2), NONE);
        due("the other way round", x.rests(1, 0, 0), 20);
        due("rests alike", x.rests(0, 0, NONE), NONE);
        due("rests of no such", x.rests(0, 2, NONE), NONE);
        RoadWheels y = Check.county("pc3;pc3;rl1d0;w;w");
        due("two rests", y.rests(0, 1, NONE), 2);
        due("rising", y.rests(0, 1, 0), 1);
        due("the next", y.rests(0, 1, 1), 10);
    }

    private static void odds() {
        RoadWheels x = Check.county("p;p;p;rd0;ra1b2;ra0b2;w");
        due("to itself", x.odds(1, 1, 100), 1000000000);
        due("chance 0", x.odds(0, 2, 0), 1000000000);
        due("chance 100", x.odds(0, 2, 100), 0);
        due("chance 50", x.odds(0, 2, 50), 625000000);
        due("chance 101", x.odds(0, 2, 101), NONE);
        due("chance -1", x.odds(0, 0, -1), NONE);
        due("odds(0, 3)", x.odds(0, 3, 50), NONE);
        due("odds(-1, 0)", x.odds(-1, 0, 50), NONE);
        x.bars(2);
        due("open roads alone", x.odds(0, 2, 50), 250000000);
        due("one road", x.odds(0, 1, 7), 930000000);
        x.bars(0);
        due("none", x.odds(0, 1, 0), 0);
        RoadWheels y = Check.county("p;p;r;r;r;r;r;r;w");
        long closed = 1000000000;
        for (int i = 0; i < 6; i++) {
            closed = closed * 3 / 100;
        }
        due("cut each time", y.odds(0, 1, 3), 1000000000 - closed);
    }

    private static void deadAndShares() {
        RoadWheels x = Check.county(HILLS, "0123");
        due("dead(0)", x.dead(0), 1);
        due("dead(4)", x.dead(4), 4);
        due("dead(5)", x.dead(5), NONE);
        due("dead(-1)", x.dead(-1), NONE);
        x.bars(3);
        due("dead(0) then", x.dead(0), 2);
        x.bars(3);
        due("shares of none", x.shares(0, 999), 0);
        x.puts(0, 0);
        x.days(3);
        due("calls", x.spot(1, 1) * 100 + x.spot(2, 1) * 10 + x.spot(3, 1), 111);
        due("shares(1, 8)", x.shares(1, 8), 2);
        due("shares(0, 8)", x.shares(0, 8), 0);
        due("shares(3, 999)", x.shares(3, 999), 333);
        due("shares(3, 0)", x.shares(3, 0), 0);
        due("shares(3, 1000)", x.shares(3, 1000), NONE);
        due("shares(3, -1)", x.shares(3, -1), NONE);
        due("shares(5, 1)", x.shares(5, 1), NONE);
    }

    private static void most() {
        RoadWheels x = Check.county(HILLS, "0123", "21012");
        int[] first = {0, 2, 2, 0, 4, 8, 0, 0, 25, 2};
        for (int what = 0; what < first.length; what++) {
            due("most(" + what + ")", x.most(what), first[what]);
        }
        due("most(10)", x.most(10), NONE);
        due("most(-1)", x.most(-1), NONE);
        x.puts(1, 1);
        x.days(2);
        due("called", x.most(0), 0);
        x.days(2);
        due("called: 0 once, 1 twice", x.most(0), 1);
        due("worn: 0 and 1 alike", x.most(3), 0);
        x.bars(2);
        due("longest, open or not", x.most(2), 2);
        due("bridges: not where there are two", x.most(5), 10);
        due("closed", x.most(6), 4);
        due("all that are open", x.most(8), 14);
        x.bars(3);
        due("parts", x.most(9), 3);
        RoadWheels y = Check.county("pc1;pc4;pc4;p;rb1l1d0;ra1b2l1d0;ra2b3l2d0;w", "01", "0 1 2");
        due("middle", y.most(4), 2);
        due("rich, the lowest", y.most(1), 1);
        y.puts(0, 1);
        due("on", y.most(7), 1);
    }

    private static void images() {
        RoadWheels x = Check.county("sk50h4;p;p;p;rd0;ra1b2d0;w", "0120", "210");
        due("back of none", x.back(), NONE);
        x.puts(0, 0);
        x.days(1);
        due("image", x.image(), 1);
        x.bars(0);
        x.days(60);
        x.days(60);
        x.carries(0, 2);
        x.puts(0, 1);
        x.flood(3);
        x.seen(0, 1, 1, true);
        x.give(0);
        due("back", x.back(), 1);
        due("the day", x.count(7), 1);
        due("where", x.wheels(0, 0), 1);
        due("its way", x.wheels(0, 1), 0);
        due("how far", x.wheels(0, 2), 2);
        due("closed", x.most(6), 0);
        due("gone", x.road(0, 5), 1);
        due("calls", x.spot(1, 1), 1);
        due("coins", x.rule(1), 48);
        due("log", x.count(10), 1);
        due("its calls", x.log(0, 0), 1);
        due("its sets", x.log(0, 1), 1);
        due("no act can be undone", x.undo(), NONE);
        due("flood is left", x.count(8), 3);
        due("seen is left", x.count(9), 1);
        due("status is left", x.status(1), 1);
        x.days(2);
        due("back again", x.back(), 1);
        x.days(3);
        due("another image", x.image(), 4);
        x.days(3);
        x.undo();
        due("back to that", x.back(), 4);
        due("its log", x.count(10), 4);
        due("image without a county", new RoadWheels().image(), NONE);
    }

    private static void counts() {
        RoadWheels x = Check.county(HILLS, "01", "02", "03");
        Check.tell(x, 1, "y:l");
        Check.tell(x, 1, "y:d");
        x.law(1);
        x.flood(5);
        x.seen(0, 0, 1, true);
        x.days(3);
        x.give(1);
        Check.feed(x, "abc");
        int[] counts = {5, 5, 2, 2, 3, 3, 1, 3, 5, 1, 3, 4};
        for (int what = 0; what < counts.length; what++) {
            due("count(" + what + ")", x.count(what), counts[what]);
        }
        due("count(12)", x.count(12), HIDDEN);
        due("count(-1)", x.count(-1), HIDDEN);
    }

    public static void main(String[] args) {
        face(); // the public face
        newObject(); // promise 1
        tape(); // promises 2, 3
        countyFaults(); // promise 4
        lawFaults(); // promise 4
        wayFaults(); // promise 4
        texts(); // promise 5
        newCounty(); // promise 5
        asTold(); // promises 6, 7, 9
        wheels(); // promise 8
        laws(); // promise 10
        worths(); // promises 7, 10
        walked(); // promise 11
        dayOf(); // promise 12
        bounds999(); // promises 12, 16, 18, 24
        puts(); // promises 13, 19
        carries(); // promises 14, 19
        barsAndGive(); // promises 12, 15, 16, 19
        flood(); // promise 17
        years(); // promise 18
        undo(); // promise 20
        logRows(); // promise 21
        farAndRow(); // promises 22, 23
        whereAndDone(); // promises 24, 25
        partedAndJoined(); // promises 26, 27
        sightings(); // promises 28, 29, 30
        tour(); // promise 31
        doors(); // promise 32
        games(); // promises 33, 34
        odds(); // promise 35
        deadAndShares(); // promises 36, 37
        most(); // promise 38
        images(); // promises 39, 40
        counts(); // promise 41
        Check.finish();
    }
}
