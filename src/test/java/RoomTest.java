import java.lang.reflect.Array;
import java.lang.reflect.Field;
import java.lang.reflect.Modifier;
import java.util.ArrayDeque;
import java.util.Collections;
import java.util.IdentityHashMap;
import java.util.Set;

/**
 * All calls of one run live in one room: an object takes little of it when it is made, and calls
 * leave it as it is, with all told that can be told and all kept that can be kept.
 */
public final class RoomTest {
    private static final int MOST_OBJECTS = 350;
    private static final int MOST_ELEMENTS = 6000;
    private static final int MOST_CALLS = 512;

    private int objects = 0;
    private int elements = 0;

    /** Counts all that an object has, each part once. */
    private static RoomTest of(Object whole) throws IllegalAccessException {
        RoomTest room = new RoomTest();
        Set<Object> found = Collections.newSetFromMap(new IdentityHashMap<>());
        ArrayDeque<Object> left = new ArrayDeque<>();
        left.add(whole);
        found.add(whole);
        while (!left.isEmpty()) {
            Object part = left.remove();
            room.objects++;
            for (Object inside : part.getClass().isArray() ? room.elementsOf(part) : room.fieldsOf(part)) {
                if (inside != null && found.add(inside)) {
                    left.add(inside);
                }
            }
        }
        return room;
    }

    private Object[] elementsOf(Object row) {
        elements += Array.getLength(row);
        return row instanceof Object[] parts ? parts : new Object[0];
    }

    private Object[] fieldsOf(Object part) throws IllegalAccessException {
        Field[] fields = part.getClass().getDeclaredFields();
        Object[] inside = new Object[fields.length];
        for (int i = 0; i < fields.length; i++) {
            if (!Modifier.isStatic(fields[i].getModifiers())) {
                elements++;
                fields[i].setAccessible(true);
                inside[i] = fields[i].getType().isPrimitive() ? null : fields[i].get(part);
            }
        }
        return inside;
    }

    /** Four LAWS, four WAYS, ten SEEN, a full TAPE, an IMAGE, a LOG and ACTS to their ends. */
    private static RoadWheels full() {
        RoadWheels x = Check.county("sk99" + ";p".repeat(7) + ";r".repeat(12) + ";w".repeat(4), "01", "0101", "010101", "00");
        for (int law = 0; law < 4; law++) {
            Check.tell(x, 1, "y:l+n*[d-c]/[r+1]");
        }
        x.law(3);
        for (int i = 0; i < 10; i++) {
            x.seen(0, 1, 1, true);
        }
        for (int set = 0; set < 4; set++) {
            x.puts(set, set);
        }
        x.days(60);
        x.years(60, 5L);
        x.image();
        x.years(40, 6L);
        Check.feed(x, "y".repeat(240));
        return x;
    }

    private static void callAll(RoadWheels x, int round) {
        int a = round % 7;
        int b = (round + 3) % 7;
        x.far(a, b);
        x.row(a, b);
        x.where(a % 4, 60);
        x.done(a % 4);
        x.parted(a, b);
        x.joined(a, b);
        x.fits(a % 4);
        x.ask(a % 4);
        x.tour(a, 127, 1);
        x.doors(127, 0);
        x.rests(0, 3, 0);
        x.odds(a, b, 50);
        x.most(round % 10);
        x.fault(round % 3);
        x.days(1);
        x.undo();
    }

    private static void sameAs(String when, RoomTest made, RoadWheels x) throws IllegalAccessException {
        RoomTest now = of(x);
        Check.due("objects " + when, now.objects, made.objects);
        Check.due("elements " + when, now.elements, made.elements);
    }

    public static void main(String[] args) throws IllegalAccessException {
        RoomTest made = of(new RoadWheels());
        Check.due("objects of a new one: " + made.objects, made.objects <= MOST_OBJECTS, true);
        Check.due("fields and elements of a new one: " + made.elements, made.elements <= MOST_ELEMENTS, true);
        RoadWheels x = full();
        Check.due("SEEN", x.count(9), 10);
        Check.due("bytes of the TAPE", x.count(5), 240);
        Check.due("LOG", x.count(10), 60);
        Check.due("ACTS", x.count(11), 40);
        sameAs("of one that is told all", made, x);
        for (int round = 0; round < MOST_CALLS / 20; round++) {
            callAll(x, round);
        }
        sameAs("behind many calls", made, x);
        Check.finish();
    }
}
