import java.util.ArrayList;
import java.util.List;
import java.util.NoSuchElementException;
import java.util.Random;

/**
 * Drawn calls, each answered by the class and by a model that works the same answers out in
 * another, slower way: it keeps whole copies, takes texts apart by their last sign, walks all rows.
 */
public final class ModelTest {
    private static final int RUNS = 1500;
    private static final int CALLS = 500;

    private static final class Told {
        int hours = 12;
        int coins = 20;
        final List<Integer> customers = new ArrayList<>();
        final List<int[]> roads = new ArrayList<>();
        final List<Integer> starts = new ArrayList<>();
    }

    private static final class Now {
        int[] place;
        int[] way;
        int[] behind;
        int[] gone;
        int[] calls;
        boolean[] closed;
        int coins;
        int day;
        List<int[]> log = new ArrayList<>();

        Now(Told told) {
            int sets = told.starts.size();
            place = new int[sets];
            way = new int[sets];
            behind = new int[sets];
            for (int i = 0; i < sets; i++) {
                place[i] = told.starts.get(i);
                way[i] = -1;
            }
            gone = new int[told.roads.size()];
            closed = new boolean[told.roads.size()];
            calls = new int[told.customers.size()];
            coins = told.coins;
        }

        Now(Now other) {
            place = other.place.clone();
            way = other.way.clone();
            behind = other.behind.clone();
            gone = other.gone.clone();
            calls = other.calls.clone();
            closed = other.closed.clone();
            coins = other.coins;
            day = other.day;
            log = new ArrayList<>(other.log);
        }
    }

    private static final class Model {
        String tape = "";
        Told told;
        Now now;
        Now image;
        final List<Now> acts = new ArrayList<>();
        final List<String> laws = new ArrayList<>();
        final List<String> ways = new ArrayList<>();
        final List<int[]> seen = new ArrayList<>();
        final int[] status = new int[5];
        int holds = -1;
        int flood = 2;

        int places() {
            return told == null ? 0 : told.customers.size();
        }

        int roads() {
            return told == null ? 0 : told.roads.size();
        }

        int sets() {
            return told == null ? 0 : told.starts.size();
        }

        boolean in(int i, int size) {
            return 0 <= i && i < size;
        }

        // texts

        int feed(int[] words) {
            StringBuilder more = new StringBuilder(tape);
            for (int word : words) {
                for (int i = 0; i < 4; i++) {
                    int sign = (word >> 8 * (3 - i)) & 255;
                    if (sign > 0) {
                        more.append((char) sign);
                    }
                }
            }
            if (more.length() > 240) {
                return -1;
            }
            tape = more.toString();
            return tape.length();
        }

        boolean end(int n) {
            if (!in(n, tape.length() + 1)) {
                return false;
            }
            tape = tape.substring(0, n);
            return true;
        }

        int fault(int sort) {
            switch (sort) {
                case 0: return countyFault(tape, new Told());
                case 1: return lawFault(tape);
                case 2: return wayFault(tape);
                default: return -2;
            }
        }

        static int wayFault(String text) {
            int digits = 0;
            for (int i = 0; i < text.length(); i++) {
                char c = text.charAt(i);
                if (c == ' ') {
                    continue;
                }
                if (!Character.isDigit(c) || c > '9' || ++digits > 12) {
                    return i;
                }
            }
            return digits < 2 ? text.length() : -1;
        }

        /** Sign by sign: what may come next. 0 a clause, 1 an item or ;, 2 a number, 3 its digits. */
        static int countyFault(String text, Told county) {
            String kinds = "sprw";
            String[] letters = {"hk", "c", "abld", "s"};
            int[][] least = {{1, 0}, {0}, {0, 0, 1, 0}, {0}};
            int[][] most = {{24, 99}, {9}, {6, 6, 9, 9}, {6}};
            int[][] usual = {{12, 20}, {3}, {0, 1, 4, 2}, {0}};
            int[] count = new int[4];
            int[] limit = {1, 7, 12, 4};
            int kind = -1;
            int item = -1;
            int[] value = null;
            String left = "";
            int state = 0;
            int i = 0;
            while (i < text.length()) {
                char c = text.charAt(i);
                if (c == ' ') {
                    i++;
                    continue;
                }
                if (state == 0) {
                    kind = kinds.indexOf(c);
                    if (kind < 0 || ++count[kind] > limit[kind]) {
                        return i;
                    }
                    value = usual[kind].clone();
                    left = letters[kind];
                    state = 1;
                    i++;
                } else if (state == 1 && c == ';') {
                    keep(county, kind, value);
                    state = 0;
                    i++;
                } else if (state == 1) {
                    if (left.indexOf(c) < 0) {
                        return i;
                    }
                    item = letters[kind].indexOf(c);
                    left = left.replace("" + c, "");
                    state = 2;
                    i++;
                } else {
                    int j = i;
                    while (j < text.length() && text.charAt(j) >= '0' && text.charAt(j) <= '9') {
                        j++;
                    }
                    if (j == i) {
                        return i;
                    }
                    if (j - i > 2) {
                        return i + 2;
                    }
                    value[item] = Integer.parseInt(text.substring(i, j));
                    if (value[item] < least[kind][item] || value[item] > most[kind][item]) {
                        return j - 1;
                    }
                    state = 1;
                    i = j;
                }
            }
            if (state != 1) {
                return text.length();
            }
            keep(county, kind, value);
            int n = county.customers.size();
            boolean good = n >= 2 && !county.roads.isEmpty() && !county.starts.isEmpty();
            for (int[] road : county.roads) {
                good &= road[0] != road[1] && road[0] < n && road[1] < n;
            }
            for (int start : county.starts) {
                good &= start < n;
            }
            return good ? -1 : text.length();
        }

        private static void keep(Told county, int kind, int[] value) {
            switch (kind) {
                case 0:
                    county.hours = value[0];
                    county.coins = value[1];
                    break;
                case 1:
                    county.customers.add(value[0]);
                    break;
                case 2:
                    county.roads.add(value);
                    break;
                default:
                    county.starts.add(value[0]);
                    break;
            }
        }

        /**
         * A row of what stands open: for each bracket how many ! stand ahead of the unit it is in.
         * Phases: L left of a comparison, R right of it, U behind a unit in ( ), W the worth.
         */
        static int lawFault(String text) {
            int state = 0; // 0 y, 1 :, 2 an operand or a unit, 3 an operand, 4 behind an operand
            StringBuilder open = new StringBuilder();
            StringBuilder phases = new StringBuilder("L");
            List<Integer> nots = new ArrayList<>();
            nots.add(0);
            for (int i = 0; i < text.length(); i++) {
                char c = text.charAt(i);
                if (c == ' ') {
                    continue;
                }
                int top = phases.length() - 1;
                char phase = phases.charAt(top);
                int within = open.length();
                for (int n : nots) {
                    within += n;
                }
                if (state == 0) {
                    if (c != 'y') {
                        return i;
                    }
                    state = 1;
                } else if (state == 1) {
                    if (c != ':') {
                        return i;
                    }
                    state = 2;
                    phases = new StringBuilder("L");
                    nots.set(0, 0);
                } else if (state == 2 && (c == '!' || c == '(')) {
                    if (within == 6) {
                        return i;
                    }
                    if (c == '!') {
                        nots.set(top, nots.get(top) + 1);
                        if (top == 0) {
                            phases.setCharAt(0, 'C');
                        }
                    } else {
                        if (top == 0) {
                            phases.setCharAt(0, 'C');
                        }
                        open.append('(');
                        phases.append('C');
                        nots.add(0);
                    }
                } else if (state == 2 || state == 3) {
                    if (c == '[') {
                        if (within == 6) {
                            return i;
                        }
                        open.append('[');
                        phases.append('S');
                        nots.add(0);
                        state = 3;
                    } else if ("ldncry".indexOf(c) >= 0) {
                        state = 4;
                    } else if (c >= '0' && c <= '9') {
                        int j = i;
                        while (j < text.length() && text.charAt(j) >= '0' && text.charAt(j) <= '9') {
                            j++;
                        }
                        if (j - i > 4) {
                            return i + 4;
                        }
                        i = j - 1;
                        state = 4;
                    } else {
                        return i;
                    }
                } else {
                    boolean sum = phase != 'U';
                    if (sum && "+-*/".indexOf(c) >= 0) {
                        state = 3;
                    } else if ((phase == 'L' || phase == 'C') && "=<>".indexOf(c) >= 0) {
                        phases.setCharAt(top, 'R');
                        state = 3;
                    } else if ((phase == 'R' || phase == 'U') && (c == '&' || c == '|')) {
                        phases.setCharAt(top, 'C');
                        nots.set(top, 0);
                        state = 2;
                    } else if ((phase == 'R' || phase == 'U') && c == '?' && top == 0) {
                        phases.setCharAt(0, 'W');
                        nots.set(0, 0);
                        state = 3;
                    } else if ((phase == 'R' || phase == 'U') && c == ')' && top > 0) {
                        phases.setLength(top);
                        open.setLength(top - 1);
                        nots.remove(top);
                        phases.setCharAt(top - 1, 'U');
                    } else if (phase == 'S' && c == ']') {
                        phases.setLength(top);
                        open.setLength(top - 1);
                        nots.remove(top);
                    } else if ((phase == 'L' || phase == 'W') && c == ';' && top == 0) {
                        state = 0;
                    } else {
                        return i;
                    }
                }
            }
            boolean whole = state == 4 && phases.length() == 1
                    && (phases.charAt(0) == 'L' || phases.charAt(0) == 'W');
            return whole ? -1 : text.length();
        }

        int text(int sort) {
            if (sort < 0 || sort > 2 || fault(sort) != -1) {
                return -1;
            }
            if (sort == 0) {
                told = new Told();
                countyFault(tape, told);
                tape = "";
                now = new Now(told);
                image = null;
                acts.clear();
                seen.clear();
                return places();
            }
            List<String> list = sort == 1 ? laws : ways;
            if (list.size() == 4) {
                return -1;
            }
            list.add(tape.replace(" ", ""));
            tape = "";
            return list.size() - 1;
        }

        // laws

        static int lastOf(String text, String signs) {
            int depth = 0;
            for (int i = text.length() - 1; i >= 0; i--) {
                char c = text.charAt(i);
                if (c == ')' || c == ']') {
                    depth++;
                } else if (c == '(' || c == '[') {
                    depth--;
                } else if (depth == 0 && signs.indexOf(c) >= 0) {
                    return i;
                }
            }
            return -1;
        }

        static long sum(String text, String letters, int[] values) {
            int i = lastOf(text, "+-");
            if (i < 0) {
                i = lastOf(text, "*/");
            }
            if (i >= 0) {
                long a = sum(text.substring(0, i), letters, values);
                long b = sum(text.substring(i + 1), letters, values);
                char c = text.charAt(i);
                long v = c == '+' ? a + b : c == '-' ? a - b : c == '*' ? a * b : b == 0 ? 0 : a / b;
                return Math.max(-1000000, Math.min(1000000, v));
            }
            if (text.charAt(0) == '[') {
                return sum(text.substring(1, text.length() - 1), letters, values);
            }
            int letter = letters.indexOf(text.charAt(0));
            return letter >= 0 ? values[letter] : Integer.parseInt(text);
        }

        static boolean holdsOf(String text, String letters, int[] values) {
            int i = lastOf(text, "|");
            if (i >= 0) {
                return holdsOf(text.substring(0, i), letters, values)
                        || holdsOf(text.substring(i + 1), letters, values);
            }
            i = lastOf(text, "&");
            if (i >= 0) {
                return holdsOf(text.substring(0, i), letters, values)
                        && holdsOf(text.substring(i + 1), letters, values);
            }
            if (text.charAt(0) == '!') {
                return !holdsOf(text.substring(1), letters, values);
            }
            if (text.charAt(0) == '(') {
                return holdsOf(text.substring(1, text.length() - 1), letters, values);
            }
            i = lastOf(text, "=<>");
            long a = sum(text.substring(0, i), letters, values);
            long b = sum(text.substring(i + 1), letters, values);
            char c = text.charAt(i);
            return c == '=' ? a == b : c == '<' ? a < b : a > b;
        }

        int longOf(Now s, int r) {
            int[] road = told.roads.get(r);
            if (holds < 0) {
                return road[2] + road[3] / 4;
            }
            int closed = 0;
            for (boolean c : s.closed) {
                closed += c ? 1 : 0;
            }
            int[] values = {road[2], road[3], s.gone[r],
                told.customers.get(road[0]) + told.customers.get(road[1]), closed, s.day % 100};
            long worth = 0;
            for (String clause : laws.get(holds).split(";")) {
                String body = clause.substring(2);
                int q = body.indexOf('?');
                if (q < 0 || holdsOf(body.substring(0, q), "ldncry", values)) {
                    worth = sum(body.substring(q + 1), "ldncry", values);
                    break;
                }
            }
            return (int) Math.max(1, Math.min(24, worth));
        }

        // days

        void day(Now s) {
            int[] length = new int[roads()];
            for (int r = 0; r < roads(); r++) {
                length[r] = longOf(s, r);
            }
            int[] gone = s.gone.clone();
            int calls = 0;
            for (int set = 0; set < sets(); set++) {
                if (s.way[set] < 0) {
                    continue;
                }
                String way = ways.get(s.way[set]);
                int hour = 0;
                boolean goes = true;
                while (goes && s.behind[set] < way.length()) {
                    int next = way.charAt(s.behind[set]) - '0';
                    int best = -1;
                    for (int r = roads() - 1; r >= 0; r--) {
                        int[] road = told.roads.get(r);
                        boolean there = Math.min(road[0], road[1]) == Math.min(next, s.place[set])
                                && Math.max(road[0], road[1]) == Math.max(next, s.place[set]);
                        if (there && !s.closed[r] && (best < 0 || length[r] <= length[best])) {
                            best = r;
                        }
                    }
                    if (next == s.place[set]) {
                        best = -1;
                    } else if (best < 0 || hour + length[best] > told.hours) {
                        goes = false;
                    }
                    if (goes) {
                        if (best >= 0) {
                            hour += length[best];
                            gone[best]++;
                        }
                        s.place[set] = next;
                        s.behind[set]++;
                        s.calls[next] = Math.min(999, s.calls[next] + 1);
                        s.coins = Math.min(999, s.coins + (told.customers.get(next) > 0 ? 1 : 0));
                        calls++;
                    }
                }
                if (s.behind[set] == way.length()) {
                    s.way[set] = -1;
                    s.behind[set] = 0;
                }
            }
            for (int r = 0; r < roads(); r++) {
                s.gone[r] = Math.min(999, gone[r]);
            }
            s.day++;
            s.log.add(0, new int[] {calls, on(s), closed(s)});
        }

        int on(Now s) {
            int bits = 0;
            for (int i = 0; i < sets(); i++) {
                bits += s.way[i] >= 0 ? 1 << i : 0;
            }
            return bits;
        }

        int closed(Now s) {
            int bits = 0;
            for (int i = 0; i < roads(); i++) {
                bits += s.closed[i] ? 1 << i : 0;
            }
            return bits;
        }

        void act() {
            acts.add(new Now(now));
            if (acts.size() > 40) {
                acts.remove(0);
            }
        }

        int refused(int why) {
            status[why]++;
            return -1;
        }

        int days(int n) {
            if (told == null) {
                return refused(0);
            }
            if (n < 1 || n > 60) {
                return refused(1);
            }
            if (now.day + n > 999) {
                return refused(4);
            }
            for (int i = 0; i < n; i++) {
                act();
                day(now);
            }
            return now.day;
        }

        int puts(int set, int way) {
            if (!in(set, sets())) {
                return refused(0);
            }
            if (!in(way, ways.size())) {
                return refused(1);
            }
            if (ways.get(way).charAt(0) - '0' != now.place[set]) {
                return refused(2);
            }
            if (now.coins < 3) {
                return refused(3);
            }
            act();
            now.coins -= 3;
            now.way[set] = way;
            now.behind[set] = 1;
            return ways.get(way).length();
        }

        int carries(int set, int place) {
            if (!in(set, sets())) {
                return refused(0);
            }
            if (!in(place, places())) {
                return refused(1);
            }
            if (now.place[set] == place) {
                return refused(2);
            }
            if (now.coins < 2) {
                return refused(3);
            }
            act();
            int was = now.place[set];
            now.coins -= 2;
            now.place[set] = place;
            now.way[set] = -1;
            now.behind[set] = 0;
            return was;
        }

        int bars(int road) {
            if (!in(road, roads())) {
                return refused(0);
            }
            if (now.coins < 1) {
                return refused(3);
            }
            act();
            now.coins--;
            now.closed[road] = !now.closed[road];
            return now.closed[road] ? 1 : 0;
        }

        int give(int n) {
            if (told == null) {
                return refused(0);
            }
            if (n < 1 || n > 50 || now.coins + n > 999) {
                return refused(1);
            }
            act();
            now.coins += n;
            return now.coins;
        }

        boolean flood(int v) {
            if (!in(v, 10) || v == flood) {
                return false;
            }
            flood = v;
            return true;
        }

        long x;

        int draw(int j) {
            x = x * 6364136223846793005L + 1442695040888963407L;
            return (int) ((x >>> 33) % j);
        }

        int years(int n, long seed) {
            if (told == null || n < 1 || n > 60 || now.day + n > 999) {
                return -1;
            }
            x = seed;
            for (int i = 0; i < n; i++) {
                act();
                if (draw(10) < flood) {
                    int road = draw(roads());
                    now.closed[road] = !now.closed[road];
                }
                int set = draw(sets());
                int way = draw(4);
                if (way < ways.size() && ways.get(way).charAt(0) == '0' + now.place[set] && now.way[set] < 0) {
                    now.way[set] = way;
                    now.behind[set] = 1;
                }
                day(now);
            }
            return now.day;
        }

        int undo() {
            if (acts.isEmpty()) {
                return -1;
            }
            now = acts.remove(acts.size() - 1);
            return acts.size();
        }

        int log(int i, int what) {
            return told == null || !in(i, Math.min(60, now.log.size())) || !in(what, 3) ? -1
                    : now.log.get(i)[what];
        }

        int image() {
            if (told == null) {
                return -1;
            }
            image = new Now(now);
            return now.day;
        }

        int back() {
            if (image == null) {
                return -1;
            }
            now = new Now(image);
            acts.clear();
            return now.day;
        }

        // what is told

        int rule(int what) {
            return told == null || !in(what, 2) ? -1 : what == 0 ? told.hours : now.coins;
        }

        int road(int road, int what) {
            if (!in(road, roads()) || !in(what, 7)) {
                return -1;
            }
            return what < 4 ? told.roads.get(road)[what] : what == 4 ? longOf(now, road)
                    : what == 5 ? now.gone[road] : now.closed[road] ? 1 : 0;
        }

        int wheels(int set, int what) {
            if (!in(set, sets()) || !in(what, 3)) {
                return -77;
            }
            return what == 0 ? now.place[set] : what == 1 ? now.way[set] : now.behind[set];
        }

        int spot(int place, int what) {
            return !in(place, places()) || !in(what, 2) ? -1
                    : what == 0 ? told.customers.get(place) : now.calls[place];
        }

        boolean law(int law) {
            if (law != -1 && !in(law, laws.size())) {
                return false;
            }
            holds = law;
            return true;
        }

        int walked(int way, int i) {
            if (!in(way, ways.size())) {
                return -1;
            }
            String text = ways.get(way);
            return i == -1 ? text.length() : in(i, text.length()) ? text.charAt(i) - '0' : -1;
        }

        // apart

        /** {HOURS, how many PLACES, the row} of the best of all rows, or null. */
        int[] bestRow(int from, int to) {
            int[][] best = {null};
            int[] length = new int[roads()];
            for (int r = 0; r < roads(); r++) {
                length[r] = now.closed[r] ? -1 : longOf(now, r);
            }
            walk(from, to, 1 << from, new int[] {0, 1, from}, length, best);
            return best[0];
        }

        void walk(int at, int to, int been, int[] row, int[] length, int[][] best) {
            if (at == to) {
                if (best[0] == null || java.util.Arrays.compare(row, best[0]) < 0) {
                    best[0] = row;
                }
                return;
            }
            for (int r = 0; r < roads(); r++) {
                int[] road = told.roads.get(r);
                int next = road[0] == at ? road[1] : road[1] == at ? road[0] : -1;
                if (next >= 0 && length[r] > 0 && (been >> next & 1) == 0
                        && (best[0] == null || row[0] + length[r] <= best[0][0])) {
                    walk(next, to, been | 1 << next,
                            new int[] {row[0] + length[r], row[1] + 1, row[2] * 10 + next}, length, best);
                }
            }
        }

        int far(int from, int to) {
            int[] row = in(from, places()) && in(to, places()) ? bestRow(from, to) : null;
            return row == null ? -1 : row[0];
        }

        int row(int from, int to) {
            int[] row = in(from, places()) && in(to, places()) ? bestRow(from, to) : null;
            return row == null ? -1 : row[2];
        }

        int where(int set, int n) {
            if (!in(set, sets()) || n < 0 || n > 60) {
                return -1;
            }
            Now s = new Now(now);
            for (int i = 0; i < n; i++) {
                day(s);
            }
            return s.place[set];
        }

        int done(int set) {
            if (!in(set, sets())) {
                return -1;
            }
            Now s = new Now(now);
            int n = 0;
            while (n <= 60 && s.way[set] >= 0) {
                day(s);
                n++;
            }
            return n > 60 ? -1 : n;
        }

        int[] parts(int open) {
            int[] part = new int[places()];
            for (int i = 0; i < part.length; i++) {
                part[i] = i;
            }
            for (int r = 0; r < roads(); r++) {
                if ((open >> r & 1) != 0) {
                    int a = part[told.roads.get(r)[0]];
                    int b = part[told.roads.get(r)[1]];
                    for (int i = 0; i < part.length; i++) {
                        part[i] = part[i] == b ? a : part[i];
                    }
                }
            }
            return part;
        }

        boolean joins(int from, int to, int open) {
            int[] part = parts(open);
            return part[from] == part[to];
        }

        int open() {
            return (1 << roads()) - 1 - closed(now);
        }

        int fewest(int from, int to, boolean part) {
            if (!in(from, places()) || !in(to, places()) || from == to) {
                return -1;
            }
            int of = part ? open() : closed(now);
            for (int n = 0; n <= roads(); n++) {
                for (int bits = 0; bits < 1 << roads(); bits++) {
                    if (Integer.bitCount(bits) == n && (bits & of) == bits
                            && joins(from, to, open() ^ bits) != part) {
                        return bits;
                    }
                }
            }
            return -1;
        }

        int seen(int set, int place, int n, boolean is) {
            if (!in(set, sets()) || !in(place, places()) || n < 1 || n > 9 || seen.size() == 10) {
                return -1;
            }
            seen.add(new int[] {set, place, n, is ? 1 : 0});
            return seen.size();
        }

        int behind(int set, int way, int n) {
            Now s = new Now(told);
            s.way[set] = way;
            s.behind[set] = 1;
            for (int i = 0; i < n; i++) {
                day(s);
            }
            return s.place[set];
        }

        int fits(int set) {
            if (!in(set, sets())) {
                return -1;
            }
            int bits = 0;
            for (int way = 0; way < ways.size(); way++) {
                boolean fits = ways.get(way).charAt(0) - '0' == told.starts.get(set);
                for (int[] s : seen) {
                    fits = fits && (s[0] != set || (behind(set, way, s[2]) == s[1] ? 1 : 0) == s[3]);
                }
                bits += fits ? 1 << way : 0;
            }
            return bits;
        }

        int ask(int set) {
            int fits = fits(set);
            if (fits <= 0) {
                return -1;
            }
            int best = 0;
            int fewest = 99;
            for (int n = 1; n <= 9; n++) {
                int[] alike = new int[7];
                int most = 0;
                for (int way = 0; way < ways.size(); way++) {
                    if ((fits >> way & 1) != 0) {
                        most = Math.max(most, ++alike[behind(set, way, n)]);
                    }
                }
                if (most < fewest) {
                    fewest = most;
                    best = n;
                }
            }
            return best;
        }

        int[][] allFar() {
            int[][] far = new int[places()][places()];
            for (int a = 0; a < places(); a++) {
                for (int b = 0; b < places(); b++) {
                    far[a][b] = far(a, b);
                }
            }
            return far;
        }

        int tour(int from, int places, int what) {
            if (!in(from, places()) || places <= 0 || places >= 1 << places() || !in(what, 2)) {
                return -1;
            }
            int[] best = {99999, 0};
            String row = (places >> from & 1) != 0 ? "" + from : "";
            rows(from, from, places & ~(1 << from), 0, row, allFar(), best);
            return best[0] == 99999 ? -1 : best[what];
        }

        void rows(int from, int at, int left, int hours, String row, int[][] far, int[] best) {
            if (left == 0 && far[at][from] >= 0) {
                int all = hours + far[at][from];
                int number = Integer.parseInt(row);
                if (all < best[0] || all == best[0] && number < best[1]) {
                    best[0] = all;
                    best[1] = number;
                }
            }
            for (int next = places() - 1; next >= 0; next--) {
                if ((left >> next & 1) != 0 && far[at][next] >= 0) {
                    rows(from, next, left & ~(1 << next), hours + far[at][next], row + next, far, best);
                }
            }
        }

        int doors(int places, int what) {
            if (places <= 0 || places >= 1 << places() || !in(what, 2)) {
                return -1;
            }
            int[][] far = allFar();
            int ways = (int) Math.round(Math.pow(8, sets()));
            int[] best = null;
            for (int code = 0; code < ways; code++) {
                int been = 0;
                int hours = 0;
                int row = 0;
                boolean good = true;
                for (int set = 0; set < sets(); set++) {
                    int to = code >> 3 * set & 7;
                    row = row * 10 + (to == 7 ? 9 : to);
                    if (to < 7) {
                        good = good && (places >> to & 1) != 0 && (been >> to & 1) == 0
                                && far[now.place[set]][to] >= 0;
                        been |= 1 << to;
                        hours += good ? far[now.place[set]][to] : 0;
                    }
                }
                int[] one = {-Integer.bitCount(been), hours, row};
                if (good && (best == null || java.util.Arrays.compare(one, best) < 0)) {
                    best = one;
                }
            }
            return what == 0 ? best[2] : best[1];
        }

        int has(int set, int place, boolean both, int[][] far) {
            if (place >= places() || far[now.place[set]][place] < 0) {
                return -9;
            }
            return (3 * told.customers.get(place) - far[now.place[set]][place]) / (both ? 2 : 1);
        }

        int game(int one, int other, int x, int y, int what) {
            if (!in(one, sets()) || !in(other, sets()) || one == other || !in(x, 7) || !in(y, 7) || !in(what, 2)) {
                return -1000000;
            }
            return what == 0 ? has(one, x, x == y, allFar()) : has(other, y, x == y, allFar());
        }

        int rests(int one, int other, int i) {
            if (!in(one, sets()) || !in(other, sets()) || one == other) {
                return -1;
            }
            int[][] far = allFar();
            List<Integer> rests = new ArrayList<>();
            for (int x = 0; x < places(); x++) {
                for (int y = 0; y < places(); y++) {
                    boolean rest = true;
                    for (int z = 0; z < places(); z++) {
                        rest &= has(one, z, z == y, far) <= has(one, x, x == y, far);
                        rest &= has(other, z, z == x, far) <= has(other, y, x == y, far);
                    }
                    if (rest) {
                        rests.add(10 * x + y);
                    }
                }
            }
            return i == -1 ? rests.size() : in(i, rests.size()) ? rests.get(i) : -1;
        }

        int odds(int from, int to, int chance) {
            if (!in(from, places()) || !in(to, places()) || !in(chance, 101)) {
                return -1;
            }
            long all = 0;
            for (int bits = 0; bits < 1 << roads(); bits++) {
                if ((bits & ~open()) != 0) {
                    continue;
                }
                long part = 1000000000L;
                for (int r = 0; r < roads(); r++) {
                    if ((open() >> r & 1) != 0) {
                        long closed = part * chance / 100;
                        part = (bits >> r & 1) != 0 ? part - closed : closed;
                    }
                }
                all += part > 0 && joins(from, to, bits) ? part : 0;
            }
            return (int) all;
        }

        int dead(int place) {
            if (!in(place, places())) {
                return -1;
            }
            int dead = 0;
            for (int i = 0; i < places(); i++) {
                dead += far(place, i) < 0 ? 1 : 0;
            }
            return dead;
        }

        int shares(int place, int c) {
            if (!in(place, places()) || !in(c, 1000)) {
                return -1;
            }
            int all = 0;
            for (int calls : now.calls) {
                all += calls;
            }
            return all == 0 ? 0 : c * now.calls[place] / all;
        }

        int first(int[] numbers) {
            int most = Integer.MIN_VALUE;
            for (int n : numbers) {
                most = Math.max(most, n);
            }
            int i = 0;
            while (numbers[i] != most) {
                i++;
            }
            return i;
        }

        int most(int what) {
            if (told == null || !in(what, 10)) {
                return -1;
            }
            int[] length = new int[roads()];
            int all = 0;
            int bridges = 0;
            for (int r = 0; r < roads(); r++) {
                length[r] = longOf(now, r);
                all += now.closed[r] ? 0 : length[r];
                int[] road = told.roads.get(r);
                bridges += !now.closed[r] && !joins(road[0], road[1], open() ^ 1 << r) ? 1 << r : 0;
            }
            int[] rich = new int[places()];
            int[] near = new int[places()];
            int[][] far = what == 4 ? allFar() : null;
            for (int p = 0; p < places(); p++) {
                rich[p] = told.customers.get(p);
                for (int q = 0; what == 4 && q < places(); q++) {
                    near[p] = Math.min(near[p], -far[p][q] > 0 ? 0 : -far[p][q]);
                }
            }
            java.util.Set<Integer> parts = new java.util.HashSet<>();
            for (int p : parts(open())) {
                parts.add(p);
            }
            int[] answers = {first(now.calls), first(rich), first(length), first(now.gone), first(near),
                bridges, closed(now), on(now), all, parts.size()};
            return answers[what];
        }

        int count(int what) {
            int[] counts = {places(), roads(), sets(), laws.size(), ways.size(), tape.length(), holds,
                told == null ? 0 : now.day, flood, seen.size(),
                told == null ? 0 : Math.min(60, now.log.size()), acts.size()};
            return in(what, 12) ? counts[what] : -1000000;
        }
    }

    // draws of texts

    private static String blanks(Random draw) {
        return draw.nextInt(12) == 0 ? " " : "";
    }

    private static String spaced(Random draw, String text) {
        if (draw.nextInt(3) != 0) {
            return text;
        }
        StringBuilder out = new StringBuilder(blanks(draw));
        for (int i = 0; i < text.length(); i++) {
            out.append(text.charAt(i));
            boolean within = i + 1 < text.length() && Character.isDigit(text.charAt(i))
                    && Character.isDigit(text.charAt(i + 1));
            out.append(within && draw.nextInt(20) != 0 ? "" : blanks(draw));
        }
        return out.toString();
    }

    private static String spoilt(Random draw, String text) {
        if (draw.nextInt(4) != 0 || text.isEmpty()) {
            return text;
        }
        StringBuilder out = new StringBuilder(text);
        String signs = "sprwhkcabldny:?|&!()[]=<>+-*/;0123456789 \u00e9";
        for (int n = draw.nextInt(3); n >= 0 && out.length() > 0; n--) {
            int at = draw.nextInt(out.length());
            char sign = signs.charAt(draw.nextInt(signs.length()));
            switch (draw.nextInt(4)) {
                case 0:
                    out.setCharAt(at, sign);
                    break;
                case 1:
                    out.insert(at, sign);
                    break;
                case 2:
                    out.deleteCharAt(at);
                    break;
                default:
                    out.setLength(at);
                    break;
            }
        }
        return out.toString();
    }

    private static String item(Random draw, String letter, int least, int most) {
        int off = draw.nextInt(60) == 0 ? draw.nextInt(3) - 1 : 0;
        int number = Math.max(0, least + draw.nextInt(most - least + 1) + off);
        String digits = (number < 10 && draw.nextInt(6) == 0 ? "0" : "") + number;
        return draw.nextInt(3) == 0 ? "" : letter + digits;
    }

    private static String county(Random draw) {
        List<String> clauses = new ArrayList<>();
        int places = 2 + draw.nextInt(6);
        int roads = 1 + draw.nextInt(12);
        int sets = 1 + draw.nextInt(4);
        for (int i = 0; i < places; i++) {
            clauses.add("p" + item(draw, "c", 0, 9));
        }
        for (int i = 0; i < roads; i++) {
            int a = draw.nextInt(places);
            int b = (a + 1 + draw.nextInt(places - 1)) % places;
            String ends = draw.nextBoolean() ? "a" + a + "b" + b : "b" + b + "a" + a;
            String rest = item(draw, "l", 1, draw.nextBoolean() ? 9 : 2) + item(draw, "d", 0, 9);
            clauses.add("r" + (draw.nextBoolean() ? ends + rest : rest + ends));
        }
        for (int i = 0; i < sets; i++) {
            clauses.add("w" + item(draw, "s", 0, places - 1));
        }
        if (draw.nextInt(5) != 0) {
            clauses.add("s" + item(draw, "h", 1, 24) + item(draw, "k", 0, 99));
        }
        if (draw.nextBoolean()) {
            java.util.Collections.shuffle(clauses.subList(places, clauses.size()), draw);
        }
        String text = spoilt(draw, spaced(draw, String.join(";", clauses)));
        return text.length() > 240 ? "p;p;r;w" : text;
    }

    private static String sum(Random draw, int depth) {
        StringBuilder out = new StringBuilder();
        for (int n = draw.nextInt(3); n >= 0; n--) {
            if (depth > 0 && draw.nextInt(4) == 0) {
                out.append('[').append(sum(draw, depth - 1)).append(']');
            } else if (draw.nextInt(3) == 0) {
                out.append(draw.nextInt(6) == 0 ? draw.nextInt(12000) : draw.nextInt(12));
            } else {
                out.append("ldncry".charAt(draw.nextInt(6)));
            }
            out.append(n == 0 ? "" : "+-*/".charAt(draw.nextInt(4)));
        }
        return out.toString();
    }

    private static String unit(Random draw, int depth) {
        if (depth > 0 && draw.nextInt(4) == 0) {
            return "!" + unit(draw, depth - 1);
        }
        if (depth > 0 && draw.nextInt(4) == 0) {
            return "(" + condition(draw, depth - 1) + ")";
        }
        return sum(draw, Math.min(2, depth)) + "=<>".charAt(draw.nextInt(3)) + sum(draw, Math.min(1, depth));
    }

    private static String condition(Random draw, int depth) {
        StringBuilder out = new StringBuilder(unit(draw, depth));
        for (int n = draw.nextInt(3); n > 0; n--) {
            out.append(draw.nextBoolean() ? '&' : '|').append(unit(draw, depth));
        }
        return out.toString();
    }

    private static String law(Random draw) {
        StringBuilder out = new StringBuilder();
        int depth = draw.nextInt(8);
        for (int n = draw.nextInt(3); n >= 0; n--) {
            out.append("y:");
            if (draw.nextInt(3) != 0) {
                out.append(condition(draw, depth)).append('?');
            }
            out.append(draw.nextInt(3) == 0 ? "l+" + sum(draw, depth) : sum(draw, depth));
            out.append(n == 0 ? "" : ";");
        }
        String text = spoilt(draw, spaced(draw, out.toString()));
        return text.length() > 240 ? "y:l*2-n" : text;
    }

    private static String way(Random draw, Model model) {
        StringBuilder out = new StringBuilder();
        int at = draw.nextInt(7);
        out.append(at);
        for (int n = draw.nextInt(13); n > 0; n--) {
            for (int tries = 0; tries < 9 && model.told != null; tries++) {
                int[] road = model.told.roads.get(draw.nextInt(model.roads()));
                if (road[0] == at || road[1] == at) {
                    at = road[0] + road[1] - at;
                    break;
                }
            }
            at = draw.nextInt(12) == 0 ? draw.nextInt(10) : at;
            out.append(at);
        }
        return spoilt(draw, spaced(draw, out.toString()));
    }

    // calls

    private static int wrong = 0;
    private static int asked = 0;
    private static String run = "";

    private static void same(String call, int got, int want) {
        asked++;
        if (got != want) {
            wrong++;
            System.out.println(run + ": " + call + " answered " + got + ", the model " + want);
        }
    }

    private static void same(String call, boolean got, boolean want) {
        same(call, got ? 1 : 0, want ? 1 : 0);
    }

    private static int any(Random draw, int size) {
        return draw.nextInt(8) != 0 && size > 0 ? draw.nextInt(size) : draw.nextInt(size + 4) - 2;
    }

    private static int wheelsOf(RoadWheels x, int set, int what) {
        try {
            return x.wheels(set, what);
        } catch (NoSuchElementException e) {
            return -77;
        }
    }

    private static void tell(Random draw, RoadWheels x, Model m, int sort) {
        if (draw.nextInt(10) != 0) {
            same("end(0)", x.end(0), m.end(0));
        }
        String text = sort == 0 ? county(draw) : sort == 1 ? law(draw) : way(draw, m);
        for (int i = 0; i < text.length(); i += 20) {
            int[] w = new int[5];
            for (int j = 0; j < 20 && i + j < text.length(); j++) {
                w[j / 4] |= text.charAt(i + j) << 24 - j % 4 * 8;
            }
            same("feed", x.feed(w[0], w[1], w[2], w[3], w[4]), m.feed(w));
        }
        for (int s = 0; s < 3; s++) {
            same("fault(" + s + ") of " + m.tape, x.fault(s), m.fault(s));
        }
        String tape = m.tape;
        same("text(" + sort + ") of " + tape, x.text(sort), m.text(sort));
    }

    private static void actOf(Random draw, RoadWheels x, Model m) {
        int a = any(draw, 4);
        int b = any(draw, 7);
        switch (draw.nextInt(14)) {
            case 0: case 1: case 2:
                same("puts " + a + " " + b % 4, x.puts(a, b % 4), m.puts(a, b % 4));
                break;
            case 3:
                same("carries " + a + " " + b, x.carries(a, b), m.carries(a, b));
                break;
            case 4: case 5: {
                int road = any(draw, m.roads());
                same("bars " + road, x.bars(road), m.bars(road));
                break;
            }
            case 6:
                same("give", x.give(b * 9), m.give(b * 9));
                break;
            case 7: case 8: {
                int n = draw.nextInt(5) == 0 ? any(draw, 61) : 1 + draw.nextInt(3);
                same("days " + n, x.days(n), m.days(n));
                break;
            }
            case 9: {
                int n = any(draw, 61);
                long seed = draw.nextLong();
                same("years " + n + " " + seed, x.years(n, seed), m.years(n, seed));
                break;
            }
            case 10:
                same("flood", x.flood(a * 2 + 1), m.flood(a * 2 + 1));
                break;
            case 11:
                for (int n = draw.nextInt(5) == 0 ? 20 : draw.nextInt(4); n > 0; n--) {
                    same("undo", x.undo(), m.undo());
                }
                break;
            case 12:
                same("law " + (a - 1), x.law(a - 1), m.law(a - 1));
                break;
            default:
                if (draw.nextInt(2) == 0) {
                    same("image", x.image(), m.image());
                } else if (draw.nextInt(2) == 0) {
                    same("back", x.back(), m.back());
                }
                break;
        }
    }

    private static void askOf(Random draw, RoadWheels x, Model m) {
        int a = any(draw, m.places());
        int b = any(draw, m.places());
        int set = any(draw, m.sets());
        int other = any(draw, m.sets());
        int n = any(draw, 61);
        int places = any(draw, 1 << m.places());
        int what = any(draw, 2);
        switch (draw.nextInt(19)) {
            case 0: same("far " + a + " " + b, x.far(a, b), m.far(a, b)); break;
            case 1: same("row " + a + " " + b, x.row(a, b), m.row(a, b)); break;
            case 2: same("where " + set + " " + n, x.where(set, n), m.where(set, n)); break;
            case 3: same("done " + set, x.done(set), m.done(set)); break;
            case 4: same("parted " + a + " " + b, x.parted(a, b), m.fewest(a, b, true)); break;
            case 5: same("joined " + a + " " + b, x.joined(a, b), m.fewest(a, b, false)); break;
            case 6: {
                boolean is = draw.nextInt(4) == 0;
                same("seen", x.seen(set, a, n / 6, is), m.seen(set, a, n / 6, is));
                break;
            }
            case 7: same("fits " + set, x.fits(set), m.fits(set)); break;
            case 8: same("ask " + set, x.ask(set), m.ask(set)); break;
            case 9: same("tour " + a + " " + places + " " + what, x.tour(a, places, what), m.tour(a, places, what)); break;
            case 10: same("doors " + places + " " + what, x.doors(places, what), m.doors(places, what)); break;
            case 11: {
                int y = draw.nextBoolean() ? a : b;
                same("game", x.game(set, other, a, y, what), m.game(set, other, a, y, what));
                break;
            }
            case 12: {
                int i = draw.nextInt(6) - 2;
                same("rests " + set + " " + other + " " + i, x.rests(set, other, i), m.rests(set, other, i));
                break;
            }
            case 13: {
                int chance = any(draw, 101);
                same("odds " + a + " " + b + " " + chance, x.odds(a, b, chance), m.odds(a, b, chance));
                break;
            }
            case 14: same("dead " + a, x.dead(a), m.dead(a)); break;
            case 15: same("shares " + a, x.shares(a, n * 17), m.shares(a, n * 17)); break;
            case 16: {
                int most = any(draw, 10);
                same("most " + most, x.most(most), m.most(most));
                break;
            }
            case 17: {
                int count = any(draw, 12);
                same("count " + count, x.count(count), m.count(count));
                break;
            }
            default: lookOf(draw, x, m); break;
        }
    }

    private static void lookOf(Random draw, RoadWheels x, Model m) {
        int what = any(draw, 3);
        int a = any(draw, m.places());
        int set = any(draw, m.sets());
        int road = any(draw, m.roads());
        int i = any(draw, 61);
        switch (draw.nextInt(7)) {
            case 0: same("rule " + what, x.rule(what), m.rule(what)); break;
            case 1: same("road " + road + " " + i % 9, x.road(road, i % 9), m.road(road, i % 9)); break;
            case 2: same("wheels " + set + " " + what, wheelsOf(x, set, what), m.wheels(set, what)); break;
            case 3: same("spot " + a + " " + what, x.spot(a, what), m.spot(a, what)); break;
            case 4: same("walked", x.walked(set, i % 13), m.walked(set, i % 13)); break;
            case 5: {
                int status = any(draw, 5);
                int want = status < 0 || status > 4 ? -1 : m.status[status];
                same("status " + status, x.status(status), want);
                break;
            }
            default: same("log " + i + " " + what, x.log(i, what), m.log(i, what)); break;
        }
    }

    private static void wholeState(RoadWheels x, Model m) {
        for (int set = 0; set < m.sets(); set++) {
            for (int what = 0; what < 3; what++) {
                same("wheels " + set + " " + what, wheelsOf(x, set, what), m.wheels(set, what));
            }
        }
        for (int road = 0; road < m.roads(); road++) {
            for (int what = 4; what < 7; what++) {
                same("road " + road + " " + what, x.road(road, what), m.road(road, what));
            }
        }
        for (int place = 0; place < m.places(); place++) {
            same("spot " + place, x.spot(place, 1), m.spot(place, 1));
        }
        same("rule 1", x.rule(1), m.rule(1));
    }

    public static void main(String[] args) {
        int runs = args.length > 0 ? Integer.parseInt(args[0]) : RUNS;
        for (int seed = 0; seed < runs && wrong < 20; seed++) {
            run = "run " + seed;
            Random draw = new Random(seed);
            RoadWheels x = new RoadWheels();
            Model m = new Model();
            if (draw.nextInt(10) != 0) {
                for (int tries = 0; tries < 9 && m.told == null; tries++) {
                    tell(draw, x, m, 0);
                }
                for (int i = 0; i < 6; i++) {
                    tell(draw, x, m, 1 + i % 2);
                }
            }
            for (int i = 0; i < CALLS && wrong < 20; i++) {
                int kind = draw.nextInt(100);
                if (kind < 4) {
                    tell(draw, x, m, kind == 0 ? draw.nextInt(3) : 1 + kind % 2);
                } else if (kind < 40) {
                    actOf(draw, x, m);
                } else {
                    askOf(draw, x, m);
                }
            }
            wholeState(x, m);
        }
        System.out.println(asked + " answers, " + wrong + " not as the model's");
        if (wrong != 0) {
            System.exit(1);
        }
    }
}
