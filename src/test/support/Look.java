import java.util.ArrayList;
import java.util.List;

/** All that an object answers, and whether two objects that were made alike answer alike. */
final class Look {
    /** Makes the same object each time; what is asked of it is asked of a fresh one. */
    interface Make {
        RoadWheels make();
    }

    interface Ask {
        long of(RoadWheels x);
    }

    /** An object is used for 512 calls at most; making one takes fewer than the rest of these. */
    private static final int ASKS_EACH = 200;

    private final List<String> names = new ArrayList<>();
    private final List<Ask> asks = new ArrayList<>();

    Look() {
        tellings();
        goings();
        distances();
        sightings();
        errands();
        greatest();
    }

    private void add(String name, Ask ask) {
        names.add(name);
        asks.add(ask);
    }

    private void tellings() {
        for (int i = 0; i < 12; i++) {
            int what = i;
            add("count(" + what + ")", x -> x.count(what));
        }
        for (int i = 0; i < 3; i++) {
            int sort = i;
            add("rule(" + sort + ")", x -> x.rule(sort));
            add("fault(" + sort + ")", x -> x.fault(sort));
        }
        for (int i = 0; i < 4; i++) {
            for (int j = -1; j < 12; j++) {
                int way = i;
                int at = j;
                add("walked(" + way + ", " + at + ")", x -> x.walked(way, at));
            }
        }
        for (int i = 0; i < 5; i++) {
            int what = i;
            add("status(" + what + ")", x -> x.status(what));
        }
    }

    private void goings() {
        for (int i = 0; i < 84; i++) {
            int road = i / 7;
            int what = i % 7;
            add("road(" + road + ", " + what + ")", x -> x.road(road, what));
        }
        for (int i = 0; i < 12; i++) {
            int set = i / 3;
            int what = i % 3;
            add("wheels(" + set + ", " + what + ")", x -> Check.wheels(x, set, what));
        }
        for (int i = 0; i < 14; i++) {
            int place = i / 2;
            int what = i % 2;
            add("spot(" + place + ", " + what + ")", x -> x.spot(place, what));
        }
        for (int i = 0; i < 183; i++) {
            int day = i / 3;
            int what = i % 3;
            add("log(" + day + ", " + what + ")", x -> x.log(day, what));
        }
    }

    private void distances() {
        for (int i = 0; i < 49; i++) {
            int from = i / 7;
            int to = i % 7;
            add("far(" + from + ", " + to + ")", x -> x.far(from, to));
            add("row(" + from + ", " + to + ")", x -> x.row(from, to));
            if (from < to) {
                add("parted(" + from + ", " + to + ")", x -> x.parted(from, to));
                add("joined(" + from + ", " + to + ")", x -> x.joined(from, to));
            }
        }
        for (int i = 0; i < 7; i++) {
            int place = i;
            add("dead(" + place + ")", x -> x.dead(place));
            add("shares(" + place + ", 999)", x -> x.shares(place, 999));
            add("odds(0, " + place + ", 25)", x -> x.odds(0, place, 25));
        }
    }

    private void sightings() {
        int[] days = {0, 1, 2, 3, 7, 60};
        for (int i = 0; i < 4; i++) {
            int set = i;
            add("done(" + set + ")", x -> x.done(set));
            add("fits(" + set + ")", x -> x.fits(set));
            add("ask(" + set + ")", x -> x.ask(set));
            for (int n : days) {
                add("where(" + set + ", " + n + ")", x -> x.where(set, n));
            }
        }
    }

    private void errands() {
        int[] bits = {1, 3, 6, 31, 127};
        for (int places : bits) {
            for (int i = 0; i < 2; i++) {
                int what = i;
                add("tour(0, " + places + ", " + what + ")", x -> x.tour(0, places, what));
                add("tour(3, " + places + ", " + what + ")", x -> x.tour(3, places, what));
                add("doors(" + places + ", " + what + ")", x -> x.doors(places, what));
            }
        }
        for (int i = 0; i < 7; i++) {
            int to = i;
            add("game(0, 1, " + to + ", 2, 0)", x -> x.game(0, 1, to, 2, 0));
            add("game(2, 1, 1, " + to + ", 1)", x -> x.game(2, 1, 1, to, 1));
            add("rests(0, 1, " + (to - 1) + ")", x -> x.rests(0, 1, to - 1));
        }
    }

    private void greatest() {
        for (int i = 0; i < 10; i++) {
            int what = i;
            add("most(" + what + ")", x -> x.most(what));
        }
    }

    long[] answers(Make make) {
        long[] answers = new long[asks.size()];
        RoadWheels x = null;
        for (int i = 0; i < answers.length; i++) {
            if (i % ASKS_EACH == 0) {
                x = make.make();
            }
            answers[i] = asks.get(i).of(x);
        }
        return answers;
    }

    /** But for answers whose names begin so. */
    void alike(String what, Make one, Make other, String... but) {
        alike(what, answers(one), answers(other), but);
    }

    void alike(String what, long[] one, long[] other, String... but) {
        for (int i = 0; i < one.length; i++) {
            if (!beginsWithOne(names.get(i), but)) {
                Check.due(what + ": " + names.get(i), one[i], other[i]);
            }
        }
    }

    private static boolean beginsWithOne(String name, String... beginnings) {
        for (String beginning : beginnings) {
            if (name.startsWith(beginning)) {
                return true;
            }
        }
        return false;
    }
}
