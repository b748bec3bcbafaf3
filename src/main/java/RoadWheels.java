import java.util.NoSuchElementException;

/**
 * Wheels that know the road: a county of places and roads, and sets of wheels that go the ways
 * that were walked for them. The words of the document (COUNTY, LAW, WAY, SET ..) are used here
 * as they are there.
 */
public final class RoadWheels {
    public static final int NONE = -1;
    public static final int HIDDEN = -1000000;

    private static final int NO_SUCH_SORT = -2;

    private static final int MOST_BYTES = 240;
    private static final int MOST_PLACES = 7;
    private static final int MOST_ROADS = 12;
    private static final int MOST_SETS = 4;
    private static final int MOST_LAWS = 4;
    private static final int MOST_WAYS = 4;
    private static final int MOST_STOPS = 12;
    private static final int MOST_SEEN = 10;
    private static final int LAST_SEEN_DAY = 9;
    private static final int MOST_DAYS_ASKED = 60;
    private static final int LAST_DAY = 999;
    private static final int MOST_COUNTED = 999;
    private static final int MOST_GIVEN = 50;
    private static final int MOST_ACTS = 40;
    private static final int LOG_SHOWN = 60;

    private static final int PUT_COINS = 3;
    private static final int CARRY_COINS = 2;
    private static final int BAR_COINS = 1;

    private static final int NO_SUCH_ONE = 0;
    private static final int OUT_OF_BOUNDS = 1;
    private static final int NOT_FROM_THERE = 2;
    private static final int TOO_FEW_COINS = 3;
    private static final int BEYOND_LAST_DAY = 4;
    private static final int STATUS_SORTS = 5;

    private static final long DRAW_FACTOR = 6364136223846793005L;
    private static final long DRAW_STEP = 1442695040888963407L;

    private final Tape tape;
    private final County county;
    private final County draft;
    private final LawReader lawReader;
    private final Laws laws;
    private final Ways ways;
    private final State now;
    private final State trial;
    private final Days calendar;
    private final Past past;
    private final Net net;
    private final Sightings sightings;
    private final Errands errands;
    private final int[] refusals;
    private int floodBelow;
    private long drawn;

    public RoadWheels() {
        tape = new Tape();
        county = new County();
        draft = new County();
        lawReader = new LawReader(tape);
        laws = new Laws();
        ways = new Ways();
        now = new State();
        trial = new State();
        calendar = new Days(county, laws, ways);
        past = new Past();
        net = new Net(county, calendar);
        sightings = new Sightings(county, ways, calendar, trial);
        errands = new Errands(county, now, net);
        refusals = new int[STATUS_SORTS];
        floodBelow = 2;
    }

    public int feed(int a, int b, int c, int d, int e) {
        int more = Tape.bytesOf(a) + Tape.bytesOf(b) + Tape.bytesOf(c) + Tape.bytesOf(d) + Tape.bytesOf(e);
        if (tape.size + more > MOST_BYTES) {
            return NONE;
        }
        tape.append(a);
        tape.append(b);
        tape.append(c);
        tape.append(d);
        tape.append(e);
        return tape.size;
    }

    public boolean end(int n) {
        if (n < 0 || n > tape.size) {
            return false;
        }
        tape.size = n;
        return true;
    }

    public int fault(int sort) {
        if (sort < 0 || sort > 2) {
            return NO_SUCH_SORT;
        }
        return reads(sort) ? NONE : tape.at;
    }

    /** A fault leaves the tape at the byte that is wrong. */
    private boolean reads(int sort) {
        switch (sort) {
            case 0:
                return draft.readFrom(tape);
            case 1:
                return lawReader.readLaw();
            case 2:
                return ways.readFrom(tape);
            default:
                return false;
        }
    }

    public int text(int sort) {
        if (!reads(sort) || !hasRoomFor(sort)) {
            return NONE;
        }
        tape.size = 0;
        if (sort == 1) {
            return laws.keep(lawReader.code, lawReader.size);
        }
        return sort == 2 ? ways.keep() : beginCounty();
    }

    private boolean hasRoomFor(int sort) {
        if (sort == 1) {
            return laws.told < MOST_LAWS;
        }
        return sort != 2 || ways.told < MOST_WAYS;
    }

    private int beginCounty() {
        county.copyFrom(draft);
        now.begin(county);
        past.forget();
        sightings.told = 0;
        return county.places;
    }

    public int rule(int what) {
        if (!county.isTold()) {
            return NONE;
        }
        switch (what) {
            case 0:
                return county.hours;
            case 1:
                return now.coins;
            default:
                return NONE;
        }
    }

    public int road(int road, int what) {
        if (!county.hasRoad(road)) {
            return NONE;
        }
        switch (what) {
            case 0:
                return county.oneEnd[road];
            case 1:
                return county.otherEnd[road];
            case 2:
                return county.length[road];
            case 3:
                return county.rough[road];
            case 4:
                calendar.measure(now);
                return calendar.hoursOf[road];
            case 5:
                return now.gone[road];
            case 6:
                return now.closed >> road & 1;
            default:
                return NONE;
        }
    }

    public int wheels(int set, int what) throws NoSuchElementException {
        if (!county.hasSet(set) || what < 0 || what > 2) {
            throw new NoSuchElementException();
        }
        if (what == 0) {
            return now.place[set];
        }
        return what == 1 ? now.way[set] : now.behind[set];
    }

    public int spot(int place, int what) {
        if (!county.hasPlace(place)) {
            return NONE;
        }
        switch (what) {
            case 0:
                return county.customers[place];
            case 1:
                return now.calls[place];
            default:
                return NONE;
        }
    }

    public boolean law(int law) {
        if (law < NONE || law >= laws.told) {
            return false;
        }
        laws.holding = law;
        return true;
    }

    public int walked(int way, int i) {
        if (!ways.has(way)) {
            return NONE;
        }
        return i == NONE ? ways.sizes[way] : ways.placeAt(way, i);
    }

    public int days(int n) {
        if (!county.isTold()) {
            return refuse(NO_SUCH_ONE);
        }
        if (n < 1 || n > MOST_DAYS_ASKED) {
            return refuse(OUT_OF_BOUNDS);
        }
        if (now.day + n > LAST_DAY) {
            return refuse(BEYOND_LAST_DAY);
        }
        for (int i = 0; i < n; i++) {
            past.remember(now);
            passDay();
        }
        return now.day;
    }

    private void passDay() {
        int calls = calendar.pass(now);
        past.note(now.day, calls, now.setsOnWay(), now.closed);
    }

    private int refuse(int why) {
        refusals[why]++;
        return NONE;
    }

    public int puts(int set, int way) {
        if (!county.hasSet(set)) {
            return refuse(NO_SUCH_ONE);
        }
        if (!ways.has(way)) {
            return refuse(OUT_OF_BOUNDS);
        }
        if (ways.placeAt(way, 0) != now.place[set]) {
            return refuse(NOT_FROM_THERE);
        }
        if (now.coins < PUT_COINS) {
            return refuse(TOO_FEW_COINS);
        }
        past.remember(now);
        now.coins -= PUT_COINS;
        now.putTo(set, way);
        return ways.sizes[way];
    }

    public int carries(int set, int place) {
        if (!county.hasSet(set)) {
            return refuse(NO_SUCH_ONE);
        }
        if (!county.hasPlace(place)) {
            return refuse(OUT_OF_BOUNDS);
        }
        int from = now.place[set];
        if (from == place) {
            return refuse(NOT_FROM_THERE);
        }
        if (now.coins < CARRY_COINS) {
            return refuse(TOO_FEW_COINS);
        }
        past.remember(now);
        now.coins -= CARRY_COINS;
        now.place[set] = place;
        now.takeWay(set);
        return from;
    }

    public int bars(int road) {
        if (!county.hasRoad(road)) {
            return refuse(NO_SUCH_ONE);
        }
        if (now.coins < BAR_COINS) {
            return refuse(TOO_FEW_COINS);
        }
        past.remember(now);
        now.coins -= BAR_COINS;
        now.closed ^= 1 << road;
        return now.closed >> road & 1;
    }

    public int give(int n) {
        if (!county.isTold()) {
            return refuse(NO_SUCH_ONE);
        }
        if (n < 1 || n > MOST_GIVEN || now.coins + n > MOST_COUNTED) {
            return refuse(OUT_OF_BOUNDS);
        }
        past.remember(now);
        now.coins += n;
        return now.coins;
    }

    public boolean flood(int v) {
        if (v < 0 || v > 9 || v == floodBelow) {
            return false;
        }
        floodBelow = v;
        return true;
    }

    public int years(int n, long seed) {
        if (!county.isTold() || n < 1 || n > MOST_DAYS_ASKED || now.day + n > LAST_DAY) {
            return NONE;
        }
        drawn = seed;
        for (int i = 0; i < n; i++) {
            past.remember(now);
            drawFlood();
            drawPut();
            passDay();
        }
        return now.day;
    }

    private void drawFlood() {
        if (draw(10) < floodBelow) {
            now.closed ^= 1 << draw(county.roads);
        }
    }

    private void drawPut() {
        int set = draw(county.sets);
        int way = draw(MOST_WAYS);
        if (county.hasSet(set) && now.way[set] == NONE && ways.has(way)
                && ways.placeAt(way, 0) == now.place[set]) {
            now.putTo(set, way);
        }
    }

    private int draw(int below) {
        drawn = drawn * DRAW_FACTOR + DRAW_STEP;
        return below > 0 ? (int) ((drawn >>> 33) % below) : 0;
    }

    public int status(int what) {
        return what < 0 || what >= STATUS_SORTS ? NONE : refusals[what];
    }

    public int undo() {
        return past.undoOne(now);
    }

    public int log(int i, int what) {
        if (i < 0 || i >= Past.logSize(now.day) || what < 0 || what > 2) {
            return NONE;
        }
        return past.noted(now.day - i, what);
    }

    public int far(int from, int to) {
        if (!county.hasPlaces(from, to)) {
            return NONE;
        }
        net.measure(now);
        return net.reaches(from, to) ? net.hours[from][to] : NONE;
    }

    public int row(int from, int to) {
        if (!county.hasPlaces(from, to)) {
            return NONE;
        }
        net.measure(now);
        return net.reaches(from, to) ? net.shortestRow(from, to) : NONE;
    }

    public int where(int set, int n) {
        if (!county.hasSet(set) || n < 0 || n > MOST_DAYS_ASKED) {
            return NONE;
        }
        trial.copyFrom(now);
        for (int i = 0; i < n; i++) {
            calendar.pass(trial);
        }
        return trial.place[set];
    }

    public int done(int set) {
        if (!county.hasSet(set)) {
            return NONE;
        }
        trial.copyFrom(now);
        for (int n = 0; n <= MOST_DAYS_ASKED; n++) {
            if (trial.way[set] == NONE) {
                return n;
            }
            calendar.pass(trial);
        }
        return NONE;
    }

    public int parted(int from, int to) {
        if (!county.hasPlaces(from, to) || from == to) {
            return NONE;
        }
        return net.fewestToPart(from, to, county.allRoads() & ~now.closed);
    }

    public int joined(int from, int to) {
        if (!county.hasPlaces(from, to) || from == to) {
            return NONE;
        }
        return net.fewestToJoin(from, to, county.allRoads() & ~now.closed);
    }

    public int seen(int set, int place, int n, boolean is) {
        if (!county.hasSet(set) || !county.hasPlace(place) || n < 1 || n > LAST_SEEN_DAY) {
            return NONE;
        }
        return sightings.keep(set, place, n, is);
    }

    public int fits(int set) {
        return county.hasSet(set) ? sightings.fittingWays(set) : NONE;
    }

    public int ask(int set) {
        int fitting = county.hasSet(set) ? sightings.fittingWays(set) : 0;
        return fitting == 0 ? NONE : sightings.bestDayFor(fitting);
    }

    public int tour(int from, int places, int what) {
        if (!county.hasPlace(from) || !county.hasAnyOf(places) || what < 0 || what > 1) {
            return NONE;
        }
        net.measure(now);
        if (!errands.findTour(from, places)) {
            return NONE;
        }
        return what == 0 ? errands.bestHours : errands.bestRow;
    }

    public int doors(int places, int what) {
        if (!county.hasAnyOf(places) || what < 0 || what > 1) {
            return NONE;
        }
        net.measure(now);
        errands.findDoors(places);
        return what == 0 ? errands.bestRow : errands.bestHours;
    }

    public int game(int one, int other, int x, int y, int what) {
        if (!county.hasTwoSets(one, other) || what < 0 || what > 1) {
            return HIDDEN;
        }
        if (x < 0 || x >= MOST_PLACES || y < 0 || y >= MOST_PLACES) {
            return HIDDEN;
        }
        net.measure(now);
        return what == 0 ? errands.gain(one, x, x == y) : errands.gain(other, y, x == y);
    }

    public int rests(int one, int other, int i) {
        if (!county.hasTwoSets(one, other) || i < NONE) {
            return NONE;
        }
        net.measure(now);
        return i == NONE ? errands.howManyRests(one, other) : errands.restAt(one, other, i);
    }

    public int odds(int from, int to, int chance) {
        if (!county.hasPlaces(from, to) || chance < 0 || chance > 100) {
            return NONE;
        }
        return net.partsThatJoin(from, to, chance, county.allRoads() & ~now.closed);
    }

    public int dead(int place) {
        if (!county.hasPlace(place)) {
            return NONE;
        }
        int reached = net.reachedFrom(place, county.allRoads() & ~now.closed);
        return county.places - Integer.bitCount(reached);
    }

    public int shares(int place, int c) {
        if (!county.hasPlace(place) || c < 0 || c > 999) {
            return NONE;
        }
        int all = 0;
        for (int i = 0; i < county.places; i++) {
            all += now.calls[i];
        }
        return all == 0 ? 0 : c * now.calls[place] / all;
    }

    public int most(int what) {
        if (!county.isTold()) {
            return NONE;
        }
        net.measure(now);
        switch (what) {
            case 0:
                return firstGreatest(now.calls, county.places);
            case 1:
                return firstGreatest(county.customers, county.places);
            case 2:
                return firstGreatest(calendar.hoursOf, county.roads);
            case 3:
                return firstGreatest(now.gone, county.roads);
            case 4:
                return net.middle();
            case 5:
                return net.bridges();
            case 6:
                return now.closed;
            case 7:
                return now.setsOnWay();
            case 8:
                return net.openHours();
            case 9:
                return net.parts();
            default:
                return NONE;
        }
    }

    private static int firstGreatest(int[] numbers, int size) {
        int best = 0;
        for (int i = 1; i < size && i < numbers.length; i++) {
            if (numbers[i] > numbers[best]) {
                best = i;
            }
        }
        return best;
    }

    public int image() {
        if (!county.isTold()) {
            return NONE;
        }
        past.keepImage(now);
        return now.day;
    }

    public int back() {
        return past.goBack(now) ? now.day : NONE;
    }

    public int count(int what) {
        switch (what) {
            case 0:
                return county.places;
            case 1:
                return county.roads;
            case 2:
                return county.sets;
            case 3:
                return laws.told;
            case 4:
                return ways.told;
            case 5:
                return tape.size;
            case 6:
                return laws.holding;
            case 7:
                return now.day;
            case 8:
                return floodBelow;
            case 9:
                return sightings.told;
            case 10:
                return Past.logSize(now.day);
            case 11:
                return past.acts;
            default:
                return HIDDEN;
        }
    }

    /** The bytes that were fed, and the place at which they are being read. */
    private static final class Tape {
        private static final int BLANK = 32;
        private static final int ENDED = -1;

        private final int[] bytes = new int[MOST_BYTES];
        private int size;
        private int at;

        static int bytesOf(int word) {
            int bytes = 0;
            for (int shift = 24; shift >= 0; shift -= 8) {
                if ((word >>> shift & 255) != 0) {
                    bytes++;
                }
            }
            return bytes;
        }

        void append(int word) {
            for (int shift = 24; shift >= 0; shift -= 8) {
                int next = word >>> shift & 255;
                if (next != 0 && size < bytes.length) {
                    bytes[size] = next;
                    size++;
                }
            }
        }

        /** The next sign that is no blank: blanks may stand ahead of each. */
        int sign() {
            while (at < size && bytes[at] == BLANK) {
                at++;
            }
            return at < size ? bytes[at] : ENDED;
        }

        boolean takes(int sign) {
            if (sign() != sign) {
                return false;
            }
            at++;
            return true;
        }

        /** From right here, blanks are behind; NONE leaves the tape at the byte that is wrong. */
        int number(int mostDigits) {
            int number = 0;
            int digits = 0;
            while (at < size && bytes[at] >= '0' && bytes[at] <= '9') {
                if (digits >= mostDigits) {
                    return NONE;
                }
                number = number * 10 + bytes[at] - '0';
                digits++;
                at++;
            }
            return digits == 0 ? NONE : number;
        }

        static boolean isDigit(int sign) {
            return sign >= '0' && sign <= '9';
        }
    }

    /** What a COUNTY's text tells; none as long as it has no PLACES. */
    private static final class County {
        private static final String CLAUSES = "sprw";
        private static final int[] MOST_CLAUSES = {1, MOST_PLACES, MOST_ROADS, MOST_SETS};
        /** The ITEMS of all CLAUSES in one row; those of one go up to where the next one's begin. */
        private static final String ITEMS = "hkcablds";
        private static final int[] FIRST_ITEM = {0, 2, 3, 7, 8};
        private static final int[] USUAL = {12, 20, 3, 0, 1, 4, 2, 0};
        private static final int[] LEAST = {1, 0, 0, 0, 0, 1, 0, 0};
        private static final int[] MOST = {24, 99, 9, 6, 6, 9, 9, 6};
        private static final int ITEM_DIGITS = 2;

        private int rules;
        private int hours;
        private int coins;
        private int places;
        private int roads;
        private int sets;
        private final int[] customers = new int[MOST_PLACES];
        private final int[] oneEnd = new int[MOST_ROADS];
        private final int[] otherEnd = new int[MOST_ROADS];
        private final int[] length = new int[MOST_ROADS];
        private final int[] rough = new int[MOST_ROADS];
        private final int[] start = new int[MOST_SETS];
        private final int[] items = new int[ITEMS.length()];

        boolean isTold() {
            return places > 0;
        }

        boolean hasPlace(int place) {
            return place >= 0 && place < places;
        }

        boolean hasPlaces(int one, int other) {
            return hasPlace(one) && hasPlace(other);
        }

        boolean hasAnyOf(int bits) {
            return bits > 0 && bits < 1 << places;
        }

        boolean hasRoad(int road) {
            return road >= 0 && road < roads;
        }

        boolean hasSet(int set) {
            return set >= 0 && set < sets;
        }

        boolean hasTwoSets(int one, int other) {
            return hasSet(one) && hasSet(other) && one != other;
        }

        int allRoads() {
            return (1 << roads) - 1;
        }

        boolean isBetween(int road, int one, int other) {
            return oneEnd[road] == one && otherEnd[road] == other
                    || oneEnd[road] == other && otherEnd[road] == one;
        }

        void copyFrom(County other) {
            hours = other.hours;
            coins = other.coins;
            places = other.places;
            roads = other.roads;
            sets = other.sets;
            System.arraycopy(other.customers, 0, customers, 0, MOST_PLACES);
            System.arraycopy(other.oneEnd, 0, oneEnd, 0, MOST_ROADS);
            System.arraycopy(other.otherEnd, 0, otherEnd, 0, MOST_ROADS);
            System.arraycopy(other.length, 0, length, 0, MOST_ROADS);
            System.arraycopy(other.rough, 0, rough, 0, MOST_ROADS);
            System.arraycopy(other.start, 0, start, 0, MOST_SETS);
        }

        boolean readFrom(Tape tape) {
            rules = 0;
            hours = USUAL[0];
            coins = USUAL[1];
            places = 0;
            roads = 0;
            sets = 0;
            tape.at = 0;
            for (int i = 0; i < MOST_BYTES; i++) {
                if (!readClause(tape)) {
                    return false;
                }
                if (tape.sign() == Tape.ENDED) {
                    return isWhole();
                }
                if (!tape.takes(';')) {
                    return false;
                }
            }
            return false;
        }

        private boolean readClause(Tape tape) {
            int sign = tape.sign();
            int kind = sign == Tape.ENDED ? NONE : CLAUSES.indexOf((char) sign);
            if (kind < 0 || clausesOf(kind) >= MOST_CLAUSES[kind]) {
                return false;
            }
            tape.at++;
            if (!readItems(tape, FIRST_ITEM[kind], FIRST_ITEM[kind + 1])) {
                return false;
            }
            keepClause(kind);
            return true;
        }

        private int clausesOf(int kind) {
            switch (kind) {
                case 0:
                    return rules;
                case 1:
                    return places;
                case 2:
                    return roads;
                default:
                    return sets;
            }
        }

        private boolean readItems(Tape tape, int first, int next) {
            for (int item = first; item < next; item++) {
                items[item] = USUAL[item];
            }
            int told = 0;
            for (int i = first; i <= next; i++) {
                int sign = tape.sign();
                if (sign == Tape.ENDED || sign == ';') {
                    return true;
                }
                int item = itemOf(sign, first, next);
                if (item == NONE || (told >> item & 1) != 0) {
                    return false;
                }
                told |= 1 << item;
                tape.at++;
                if (!readNumber(tape, item)) {
                    return false;
                }
            }
            return false;
        }

        private static int itemOf(int sign, int first, int next) {
            for (int item = first; item < next; item++) {
                if (ITEMS.charAt(item) == sign) {
                    return item;
                }
            }
            return NONE;
        }

        private boolean readNumber(Tape tape, int item) {
            if (!Tape.isDigit(tape.sign())) {
                return false;
            }
            int number = tape.number(ITEM_DIGITS);
            if (number == NONE) {
                return false;
            }
            if (number < LEAST[item] || number > MOST[item]) {
                tape.at--;
                return false;
            }
            items[item] = number;
            return true;
        }

        private void keepClause(int kind) {
            switch (kind) {
                case 0:
                    hours = items[0];
                    coins = items[1];
                    rules++;
                    break;
                case 1:
                    customers[places] = items[2];
                    places++;
                    break;
                case 2:
                    oneEnd[roads] = items[3];
                    otherEnd[roads] = items[4];
                    length[roads] = items[5];
                    rough[roads] = items[6];
                    roads++;
                    break;
                default:
                    start[sets] = items[7];
                    sets++;
                    break;
            }
        }

        /** Known only at the end of a text: a PLACE may be told behind the ROAD that goes there. */
        private boolean isWhole() {
            if (places < 2 || roads < 1 || sets < 1) {
                return false;
            }
            for (int road = 0; road < roads; road++) {
                if (!hasPlaces(oneEnd[road], otherEnd[road]) || oneEnd[road] == otherEnd[road]) {
                    return false;
                }
            }
            for (int set = 0; set < sets; set++) {
                if (!hasPlace(start[set])) {
                    return false;
                }
            }
            return true;
        }
    }

    /**
     * Reads a LAW into code that needs no recursion when it is worked out: numbers, letters and
     * signs, each sign behind what it joins. A byte of the text gives one of these at most, so
     * the code is never longer than the tape.
     */
    private static final class LawReader {
        private static final int MOST_WITHIN = 6;
        private static final int MOST_DIGITS = 4;

        private final Tape tape;
        private final int[] code = new int[MOST_BYTES];
        private int size;

        LawReader(Tape tape) {
            this.tape = tape;
        }

        boolean readLaw() {
            tape.at = 0;
            size = 0;
            for (int clause = 0; clause < MOST_BYTES; clause++) {
                if (!readClause()) {
                    return false;
                }
                if (tape.sign() == Tape.ENDED) {
                    return true;
                }
                if (!tape.takes(';')) {
                    return false;
                }
            }
            return false;
        }

        private boolean readClause() {
            if (!tape.takes('y') || !tape.takes(':')) {
                return false;
            }
            int sign = tape.sign();
            if (sign == '!' || sign == '(') {
                return readCondition(0) && readWorth();
            }
            if (!readSum(0)) {
                return false;
            }
            if (!isComparison(tape.sign())) {
                return emit(Laws.SIGN + ';');
            }
            return goOnComparison(0) && goOnCondition(0) && readWorth();
        }

        private boolean readWorth() {
            return tape.takes('?') && emit(Laws.SIGN + '?') && readSum(0) && emit(Laws.SIGN + ';');
        }

        private boolean readCondition(int within) {
            return readUnit(within) && goOnCondition(within);
        }

        /** A CONDITION behind its first UNIT: that one may have been read as a SUM at first. */
        private boolean goOnCondition(int within) {
            if (!goOnTruth(within)) {
                return false;
            }
            for (int i = 0; i < MOST_BYTES && tape.takes('|'); i++) {
                if (!readUnit(within) || !goOnTruth(within) || !emit(Laws.SIGN + '|')) {
                    return false;
                }
            }
            return true;
        }

        private boolean goOnTruth(int within) {
            for (int i = 0; i < MOST_BYTES && tape.takes('&'); i++) {
                if (!readUnit(within) || !emit(Laws.SIGN + '&')) {
                    return false;
                }
            }
            return true;
        }

        private boolean readUnit(int within) {
            int sign = tape.sign();
            if (sign != '!' && sign != '(') {
                return readSum(within) && goOnComparison(within);
            }
            if (within >= MOST_WITHIN) {
                return false;
            }
            tape.at++;
            if (sign == '!') {
                return readUnit(within + 1) && emit(Laws.SIGN + '!');
            }
            return readCondition(within + 1) && tape.takes(')');
        }

        private boolean goOnComparison(int within) {
            int sign = tape.sign();
            if (!isComparison(sign)) {
                return false;
            }
            tape.at++;
            return readSum(within) && emit(Laws.SIGN + sign);
        }

        private static boolean isComparison(int sign) {
            return sign == '=' || sign == '<' || sign == '>';
        }

        private boolean readSum(int within) {
            if (!readTerm(within)) {
                return false;
            }
            for (int i = 0; i < MOST_BYTES; i++) {
                int sign = tape.sign();
                if (sign != '+' && sign != '-') {
                    return true;
                }
                tape.at++;
                if (!readTerm(within) || !emit(Laws.SIGN + sign)) {
                    return false;
                }
            }
            return false;
        }

        private boolean readTerm(int within) {
            if (!readAtom(within)) {
                return false;
            }
            for (int i = 0; i < MOST_BYTES; i++) {
                int sign = tape.sign();
                if (sign != '*' && sign != '/') {
                    return true;
                }
                tape.at++;
                if (!readAtom(within) || !emit(Laws.SIGN + sign)) {
                    return false;
                }
            }
            return false;
        }

        private boolean readAtom(int within) {
            int sign = tape.sign();
            if (Tape.isDigit(sign)) {
                int number = tape.number(MOST_DIGITS);
                return number != NONE && emit(number);
            }
            if (sign == '[') {
                if (within >= MOST_WITHIN) {
                    return false;
                }
                tape.at++;
                if (!readSum(within + 1) || tape.sign() != ']') {
                    return false;
                }
                tape.at++;
                return true;
            }
            int letter = sign < 0 ? NONE : Laws.LETTERS.indexOf((char) sign);
            if (letter < 0) {
                return false;
            }
            tape.at++;
            return emit(Laws.LETTER + letter);
        }

        private boolean emit(int part) {
            if (size >= code.length) {
                return false;
            }
            code[size] = part;
            size++;
            return true;
        }
    }

    /** The LAWS that were told, and what the one that holds is worth. */
    private static final class Laws {
        private static final String LETTERS = "ldncry";
        private static final int LETTER = 10000;
        private static final int SIGN = 20000;
        private static final int BOUND = 1000000;

        private final int[][] codes = new int[MOST_LAWS][MOST_BYTES];
        private final int[] sizes = new int[MOST_LAWS];
        private final int[] stack = new int[MOST_BYTES];
        private int height;
        private int told;
        private int holding = NONE;

        int keep(int[] code, int size) {
            if (told >= MOST_LAWS || size < 0 || size > MOST_BYTES || size > code.length) {
                return NONE;
            }
            System.arraycopy(code, 0, codes[told], 0, size);
            sizes[told] = size;
            told++;
            return told - 1;
        }

        boolean oneHolds() {
            return holding >= 0 && holding < told;
        }

        int worth(int[] letters) {
            if (!oneHolds()) {
                return 0;
            }
            int[] code = codes[holding];
            height = 0;
            boolean skips = false;
            for (int i = 0; i < sizes[holding] && i < code.length; i++) {
                int part = code[i];
                if (skips) {
                    skips = part != SIGN + ';';
                } else if (part < LETTER) {
                    push(part);
                } else if (part - LETTER < letters.length) {
                    push(letters[part - LETTER]);
                } else if (part == SIGN + ';') {
                    return pop();
                } else if (part == SIGN + '?') {
                    skips = pop() == 0;
                } else if (part == SIGN + '!') {
                    push(1 - pop());
                } else {
                    int right = pop();
                    push(join(part - SIGN, pop(), right));
                }
            }
            return 0;
        }

        private void push(int number) {
            if (height < stack.length) {
                stack[height] = number;
                height++;
            }
        }

        private int pop() {
            if (height <= 0) {
                return 0;
            }
            height--;
            return stack[height];
        }

        private static int join(int sign, int left, int right) {
            switch (sign) {
                case '+':
                    return hold((long) left + right);
                case '-':
                    return hold((long) left - right);
                case '*':
                    return hold((long) left * right);
                case '/':
                    return right == 0 ? 0 : left / right;
                case '=':
                    return left == right ? 1 : 0;
                case '<':
                    return left < right ? 1 : 0;
                case '>':
                    return left > right ? 1 : 0;
                case '&':
                    return left & right;
                default:
                    return left | right;
            }
        }

        private static int hold(long number) {
            if (number > BOUND) {
                return BOUND;
            }
            return number < -BOUND ? -BOUND : (int) number;
        }
    }

    /** The WAYS that were told; the one that is being read stands apart until it is kept. */
    private static final class Ways {
        private final int[][] stops = new int[MOST_WAYS][MOST_STOPS];
        private final int[] sizes = new int[MOST_WAYS];
        private final int[] read = new int[MOST_STOPS];
        private int readSize;
        private int told;

        boolean readFrom(Tape tape) {
            tape.at = 0;
            readSize = 0;
            for (int i = 0; i < MOST_BYTES; i++) {
                int sign = tape.sign();
                if (sign == Tape.ENDED) {
                    return readSize >= 2;
                }
                if (!Tape.isDigit(sign) || readSize >= MOST_STOPS) {
                    return false;
                }
                read[readSize] = sign - '0';
                readSize++;
                tape.at++;
            }
            return false;
        }

        int keep() {
            if (told >= MOST_WAYS) {
                return NONE;
            }
            System.arraycopy(read, 0, stops[told], 0, MOST_STOPS);
            sizes[told] = readSize;
            told++;
            return told - 1;
        }

        boolean has(int way) {
            return way >= 0 && way < told;
        }

        int placeAt(int way, int i) {
            return has(way) && i >= 0 && i < sizes[way] ? stops[way][i] : NONE;
        }
    }

    /** All that goes on from DAY to DAY. */
    private static final class State {
        private final int[] place = new int[MOST_SETS];
        private final int[] way = new int[MOST_SETS];
        private final int[] behind = new int[MOST_SETS];
        private final int[] gone = new int[MOST_ROADS];
        private final int[] calls = new int[MOST_PLACES];
        private int closed;
        private int coins;
        private int day;

        void begin(County county) {
            for (int set = 0; set < MOST_SETS; set++) {
                place[set] = county.start[set];
                takeWay(set);
            }
            for (int road = 0; road < MOST_ROADS; road++) {
                gone[road] = 0;
            }
            for (int spot = 0; spot < MOST_PLACES; spot++) {
                calls[spot] = 0;
            }
            closed = 0;
            coins = county.coins;
            day = 0;
        }

        void copyFrom(State other) {
            System.arraycopy(other.place, 0, place, 0, MOST_SETS);
            System.arraycopy(other.way, 0, way, 0, MOST_SETS);
            System.arraycopy(other.behind, 0, behind, 0, MOST_SETS);
            System.arraycopy(other.gone, 0, gone, 0, MOST_ROADS);
            System.arraycopy(other.calls, 0, calls, 0, MOST_PLACES);
            closed = other.closed;
            coins = other.coins;
            day = other.day;
        }

        void putTo(int set, int newWay) {
            way[set] = newWay;
            behind[set] = 1;
        }

        void takeWay(int set) {
            way[set] = NONE;
            behind[set] = 0;
        }

        int setsOnWay() {
            int bits = 0;
            for (int set = 0; set < MOST_SETS; set++) {
                if (way[set] != NONE) {
                    bits |= 1 << set;
                }
            }
            return bits;
        }
    }

    /** How LONG the ROADS are on a DAY, and how a DAY goes. */
    private static final class Days {
        private static final int MOST_LONG = 24;

        private final County county;
        private final Laws laws;
        private final Ways ways;
        private final int[] letters = new int[Laws.LETTERS.length()];
        private final int[] hoursOf = new int[MOST_ROADS];

        Days(County county, Laws laws, Ways ways) {
            this.county = county;
            this.laws = laws;
            this.ways = ways;
        }

        void measure(State state) {
            boolean byLaw = laws.oneHolds();
            letters[4] = Integer.bitCount(state.closed);
            letters[5] = state.day % 100;
            for (int road = 0; road < county.roads; road++) {
                if (byLaw) {
                    tellLetters(road, state);
                    hoursOf[road] = Math.max(1, Math.min(MOST_LONG, laws.worth(letters)));
                } else {
                    hoursOf[road] = county.length[road] + county.rough[road] / 4;
                }
            }
        }

        private void tellLetters(int road, State state) {
            letters[0] = county.length[road];
            letters[1] = county.rough[road];
            letters[2] = state.gone[road];
            letters[3] = county.customers[county.oneEnd[road]] + county.customers[county.otherEnd[road]];
        }

        /** How many CALLS there were. ROADS are measured once, as they are LONG as the DAY began. */
        int pass(State state) {
            measure(state);
            int calls = 0;
            for (int set = 0; set < county.sets; set++) {
                calls += passOf(set, state);
            }
            state.day++;
            return calls;
        }

        private int passOf(int set, State state) {
            int way = state.way[set];
            if (!ways.has(way)) {
                return 0;
            }
            int calls = 0;
            int hours = 0;
            for (int i = state.behind[set]; i < ways.sizes[way]; i++) {
                int next = ways.placeAt(way, i);
                if (next != state.place[set]) {
                    int road = shortestBetween(state.place[set], next, state.closed);
                    if (road == NONE || hours + hoursOf[road] > county.hours) {
                        return calls;
                    }
                    hours += hoursOf[road];
                    state.gone[road] = Math.min(MOST_COUNTED, state.gone[road] + 1);
                    state.place[set] = next;
                }
                callAt(next, state);
                calls++;
                state.behind[set] = i + 1;
            }
            state.takeWay(set);
            return calls;
        }

        int shortestBetween(int one, int other, int closed) {
            int best = NONE;
            for (int road = 0; road < county.roads; road++) {
                boolean goes = (closed >> road & 1) == 0 && county.isBetween(road, one, other);
                if (goes && (best == NONE || hoursOf[road] < hoursOf[best])) {
                    best = road;
                }
            }
            return best;
        }

        private void callAt(int place, State state) {
            if (!county.hasPlace(place)) {
                return;
            }
            state.calls[place] = Math.min(MOST_COUNTED, state.calls[place] + 1);
            if (county.customers[place] > 0) {
                state.coins = Math.min(MOST_COUNTED, state.coins + 1);
            }
        }
    }

    /** The ACTS that can be UNDONE, the LOG, and the IMAGE. */
    private static final class Past {
        /**
         * The LOG has as many rows as DAYS went, so the DAY alone tells which are shown. Rows
         * that are shown no more are kept for as long as DAYS can be UNDONE.
         */
        private static final int LOG_KEPT = LOG_SHOWN + MOST_ACTS;
        private static final int NOTED = 3;

        private final State[] ahead = new State[MOST_ACTS];
        private int acts;
        private int next;
        private final int[] rows = new int[LOG_KEPT * NOTED];
        private final State imageState = new State();
        private final int[] imageRows = new int[LOG_KEPT * NOTED];
        private boolean hasImage;

        Past() {
            for (int i = 0; i < MOST_ACTS; i++) {
                ahead[i] = new State();
            }
        }

        void forget() {
            acts = 0;
            hasImage = false;
        }

        void remember(State state) {
            ahead[next].copyFrom(state);
            next = (next + 1) % MOST_ACTS;
            acts = Math.min(MOST_ACTS, acts + 1);
        }

        int undoOne(State state) {
            if (acts == 0) {
                return NONE;
            }
            next = (next + MOST_ACTS - 1) % MOST_ACTS;
            acts--;
            state.copyFrom(ahead[next]);
            return acts;
        }

        static int logSize(int day) {
            return Math.min(LOG_SHOWN, day);
        }

        private static int rowOf(int day) {
            return Math.floorMod(day, LOG_KEPT) * NOTED;
        }

        void note(int day, int calls, int sets, int roads) {
            int row = rowOf(day);
            rows[row] = calls;
            rows[row + 1] = sets;
            rows[row + 2] = roads;
        }

        int noted(int day, int what) {
            return what < 0 || what >= NOTED ? NONE : rows[rowOf(day) + what];
        }

        void keepImage(State state) {
            imageState.copyFrom(state);
            System.arraycopy(rows, 0, imageRows, 0, rows.length);
            hasImage = true;
        }

        boolean goBack(State state) {
            if (!hasImage) {
                return false;
            }
            state.copyFrom(imageState);
            System.arraycopy(imageRows, 0, rows, 0, rows.length);
            acts = 0;
            return true;
        }
    }

    /** What is asked of PLACES and ROADS: HOURS, rows, what is joined by which. */
    private static final class Net {
        /** Far above all HOURS there can be, and still no overflow when two are added. */
        private static final int APART = 1000000;
        private static final int ALL_PARTS = 1000000000;

        private final County county;
        private final Days calendar;
        private final int[][] direct = new int[MOST_PLACES][MOST_PLACES];
        private final int[][] hours = new int[MOST_PLACES][MOST_PLACES];
        private final int[] placesTo = new int[MOST_PLACES];
        private int open;

        Net(County county, Days calendar) {
            this.county = county;
            this.calendar = calendar;
        }

        void measure(State state) {
            calendar.measure(state);
            open = county.allRoads() & ~state.closed;
            for (int from = 0; from < county.places; from++) {
                for (int to = 0; to < county.places; to++) {
                    int road = calendar.shortestBetween(from, to, state.closed);
                    direct[from][to] = road == NONE ? APART : calendar.hoursOf[road];
                    hours[from][to] = from == to ? 0 : direct[from][to];
                }
            }
            for (int by = 0; by < county.places; by++) {
                shortenBy(by);
            }
        }

        private void shortenBy(int by) {
            for (int from = 0; from < county.places; from++) {
                for (int to = 0; to < county.places; to++) {
                    int around = hours[from][by] + hours[by][to];
                    if (around < hours[from][to]) {
                        hours[from][to] = around;
                    }
                }
            }
        }

        boolean reaches(int from, int to) {
            return hours[from][to] < APART;
        }

        /** Asked only where one can come; a ROAD has an HOUR at least, so no PLACE comes twice. */
        int shortestRow(int from, int to) {
            countPlacesTo(to);
            int row = from;
            int place = from;
            for (int i = 0; i < county.places && place != to; i++) {
                place = nextOnRow(place, to);
                row = row * 10 + place;
            }
            return row;
        }

        private void countPlacesTo(int to) {
            for (int place = 0; place < county.places; place++) {
                placesTo[place] = place == to ? 0 : MOST_PLACES;
            }
            for (int round = 1; round < county.places; round++) {
                for (int place = 0; place < county.places; place++) {
                    for (int next = 0; next < county.places; next++) {
                        if (leadsOn(place, next, to)) {
                            placesTo[place] = Math.min(placesTo[place], placesTo[next] + 1);
                        }
                    }
                }
            }
        }

        private boolean leadsOn(int place, int next, int to) {
            return reaches(place, to) && direct[place][next] + hours[next][to] == hours[place][to];
        }

        private int nextOnRow(int place, int to) {
            for (int next = 0; next < county.places; next++) {
                if (leadsOn(place, next, to) && placesTo[next] + 1 == placesTo[place]) {
                    return next;
                }
            }
            return to;
        }

        /** PLACES (bits) to which one can come by some ROADS (bits). */
        int reachedFrom(int place, int roads) {
            int reached = 1 << place;
            for (int round = 1; round < county.places; round++) {
                int before = reached;
                for (int road = 0; road < county.roads; road++) {
                    int ends = 1 << county.oneEnd[road] | 1 << county.otherEnd[road];
                    if ((roads >> road & 1) != 0 && (reached & ends) != 0) {
                        reached |= ends;
                    }
                }
                if (reached == before) {
                    return reached;
                }
            }
            return reached;
        }

        private boolean meets(int from, int to, int roads) {
            return (reachedFrom(from, roads) >> to & 1) != 0;
        }

        int fewestToPart(int from, int to, int openRoads) {
            int best = openRoads;
            for (int roads = 0; roads <= county.allRoads(); roads++) {
                boolean fewer = (roads & ~openRoads) == 0 && Integer.bitCount(roads) < Integer.bitCount(best);
                if (fewer && !meets(from, to, openRoads & ~roads)) {
                    best = roads;
                }
            }
            return best;
        }

        int fewestToJoin(int from, int to, int openRoads) {
            int best = NONE;
            for (int roads = 0; roads <= county.allRoads(); roads++) {
                boolean fewer = best == NONE || Integer.bitCount(roads) < Integer.bitCount(best);
                if (fewer && (roads & openRoads) == 0 && meets(from, to, openRoads | roads)) {
                    best = roads;
                }
            }
            return best;
        }

        int partsThatJoin(int from, int to, int chance, int openRoads) {
            return joiningParts(from, to, chance, 0, openRoads, 0, ALL_PARTS);
        }

        /**
         * Of these parts those that join; ROADS below this one are drawn, those of them that
         * stayed open are sure. A part is never lost in a draw, so where what is sure joins
         * already, or all that is not drawn yet would not, the draws that are left change nothing.
         */
        private int joiningParts(int from, int to, int chance, int road, int maybe, int sure, int parts) {
            if (parts == 0 || meets(from, to, sure)) {
                return parts;
            }
            if (road >= county.roads || !meets(from, to, sure | maybe)) {
                return 0;
            }
            int bit = maybe & 1 << road;
            if (bit == 0) {
                return joiningParts(from, to, chance, road + 1, maybe, sure, parts);
            }
            int closed = (int) ((long) parts * chance / 100);
            return joiningParts(from, to, chance, road + 1, maybe & ~bit, sure, closed)
                    + joiningParts(from, to, chance, road + 1, maybe & ~bit, sure | bit, parts - closed);
        }

        int middle() {
            int best = 0;
            for (int place = 1; place < county.places; place++) {
                if (farthestFrom(place) < farthestFrom(best)) {
                    best = place;
                }
            }
            return best;
        }

        private int farthestFrom(int place) {
            int farthest = 0;
            for (int to = 0; to < county.places; to++) {
                if (reaches(place, to)) {
                    farthest = Math.max(farthest, hours[place][to]);
                }
            }
            return farthest;
        }

        int bridges() {
            int bits = 0;
            for (int road = 0; road < county.roads; road++) {
                int bit = open & 1 << road;
                if (bit != 0 && !meets(county.oneEnd[road], county.otherEnd[road], open & ~bit)) {
                    bits |= bit;
                }
            }
            return bits;
        }

        int openHours() {
            int all = 0;
            for (int road = 0; road < county.roads; road++) {
                if ((open >> road & 1) != 0) {
                    all += calendar.hoursOf[road];
                }
            }
            return all;
        }

        int parts() {
            int parts = 0;
            int reached = 0;
            for (int place = 0; place < county.places; place++) {
                if ((reached >> place & 1) == 0) {
                    parts++;
                    reached |= reachedFrom(place, open);
                }
            }
            return parts;
        }
    }

    /** Where SETS were SEEN, and which WAYS fit that. */
    private static final class Sightings {
        private final County county;
        private final Ways ways;
        private final Days calendar;
        private final State trial;
        private final int[] sets = new int[MOST_SEEN];
        private final int[] places = new int[MOST_SEEN];
        private final int[] days = new int[MOST_SEEN];
        private final boolean[] was = new boolean[MOST_SEEN];
        private final int[][] placeBehind = new int[MOST_WAYS][LAST_SEEN_DAY + 1];
        private int told;

        Sightings(County county, Ways ways, Days calendar, State trial) {
            this.county = county;
            this.ways = ways;
            this.calendar = calendar;
            this.trial = trial;
        }

        int keep(int set, int place, int day, boolean is) {
            if (told >= MOST_SEEN) {
                return NONE;
            }
            sets[told] = set;
            places[told] = place;
            days[told] = day;
            was[told] = is;
            told++;
            return told;
        }

        int fittingWays(int set) {
            int bits = 0;
            for (int way = 0; way < ways.told; way++) {
                if (ways.placeAt(way, 0) == county.start[set]) {
                    follow(set, way);
                    bits |= agrees(set, way) ? 1 << way : 0;
                }
            }
            return bits;
        }

        private void follow(int set, int way) {
            trial.begin(county);
            trial.putTo(set, way);
            for (int day = 1; day <= LAST_SEEN_DAY; day++) {
                calendar.pass(trial);
                placeBehind[way][day] = trial.place[set];
            }
        }

        private boolean agrees(int set, int way) {
            for (int i = 0; i < told; i++) {
                if (sets[i] == set && (placeBehind[way][days[i]] == places[i]) != was[i]) {
                    return false;
                }
            }
            return true;
        }

        /** Of WAYS whose PLACES were followed just before. */
        int bestDayFor(int fitting) {
            int best = 1;
            for (int day = 2; day <= LAST_SEEN_DAY; day++) {
                if (mostAlike(fitting, day) < mostAlike(fitting, best)) {
                    best = day;
                }
            }
            return best;
        }

        private int mostAlike(int fitting, int day) {
            int most = 0;
            for (int place = 0; place < county.places; place++) {
                int alike = 0;
                for (int way = 0; way < ways.told; way++) {
                    if ((fitting >> way & 1) != 0 && placeBehind[way][day] == place) {
                        alike++;
                    }
                }
                most = Math.max(most, alike);
            }
            return most;
        }
    }

    /** Tours, doors and games: what is found by trying all rows, over HOURS that are measured. */
    private static final class Errands {
        private static final int NO_DOOR = 9;
        private static final int NOTHING_THERE = -9;

        private final County county;
        private final State now;
        private final Net net;
        private int tourFrom;
        private int bestGoing;
        private int bestHours;
        private int bestRow;

        Errands(County county, State now, Net net) {
            this.county = county;
            this.now = now;
            this.net = net;
        }

        boolean findTour(int from, int places) {
            tourFrom = from;
            bestHours = Net.APART;
            bestRow = NONE;
            boolean beginsInRow = (places >> from & 1) != 0;
            goOnTour(from, places & ~(1 << from), 0, beginsInRow ? from : 0);
            return bestHours < Net.APART;
        }

        /** Rows are tried rising, so the first of the best ones is the least. */
        private void goOnTour(int at, int left, int hours, int row) {
            if (left == 0) {
                int all = hours + net.hours[at][tourFrom];
                if (all < bestHours) {
                    bestHours = all;
                    bestRow = row;
                }
                return;
            }
            for (int place = 0; place < county.places; place++) {
                if ((left >> place & 1) != 0 && net.reaches(at, place)) {
                    goOnTour(place, left & ~(1 << place), hours + net.hours[at][place], row * 10 + place);
                }
            }
        }

        void findDoors(int places) {
            bestGoing = NONE;
            bestHours = 0;
            bestRow = NONE;
            goOnDoors(0, places, 0, 0, 0);
        }

        private void goOnDoors(int set, int left, int going, int hours, int row) {
            if (set >= county.sets) {
                if (going > bestGoing || going == bestGoing && hours < bestHours) {
                    bestGoing = going;
                    bestHours = hours;
                    bestRow = row;
                }
                return;
            }
            int from = now.place[set];
            for (int place = 0; place < county.places; place++) {
                if ((left >> place & 1) != 0 && net.reaches(from, place)) {
                    goOnDoors(set + 1, left & ~(1 << place), going + 1,
                            hours + net.hours[from][place], row * 10 + place);
                }
            }
            goOnDoors(set + 1, left, going, hours, row * 10 + NO_DOOR);
        }

        int gain(int set, int place, boolean both) {
            int from = now.place[set];
            if (!county.hasPlace(place) || !net.reaches(from, place)) {
                return NOTHING_THERE;
            }
            int whole = 3 * county.customers[place] - net.hours[from][place];
            return both ? whole / 2 : whole;
        }

        int howManyRests(int one, int other) {
            int rests = 0;
            for (int x = 0; x < county.places; x++) {
                for (int y = 0; y < county.places; y++) {
                    rests += isRest(one, other, x, y) ? 1 : 0;
                }
            }
            return rests;
        }

        int restAt(int one, int other, int i) {
            int left = i;
            for (int x = 0; x < county.places; x++) {
                for (int y = 0; y < county.places; y++) {
                    if (isRest(one, other, x, y)) {
                        if (left == 0) {
                            return 10 * x + y;
                        }
                        left--;
                    }
                }
            }
            return NONE;
        }

        private boolean isRest(int one, int other, int x, int y) {
            return isBestAgainst(one, x, y) && isBestAgainst(other, y, x);
        }

        private boolean isBestAgainst(int set, int place, int others) {
            int has = gain(set, place, place == others);
            for (int instead = 0; instead < county.places; instead++) {
                if (gain(set, instead, instead == others) > has) {
                    return false;
                }
            }
            return true;
        }
    }
}
