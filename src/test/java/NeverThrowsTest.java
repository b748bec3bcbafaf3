import java.lang.reflect.InvocationTargetException;
import java.lang.reflect.Method;
import java.lang.reflect.Modifier;
import java.util.ArrayList;
import java.util.Comparator;
import java.util.List;
import java.util.NoSuchElementException;
import java.util.Random;

/** Drawn calls with any arguments in any state: nothing is thrown but by wheels, as promised. */
public final class NeverThrowsTest {
    private static final int RUNS = 3000;
    private static final int CALLS = 512;
    private static final int[] EDGES = {Integer.MIN_VALUE, Integer.MIN_VALUE + 1, -1000000, -61, -2, -1, 0, 1, 2, 3,
        4, 5, 6, 7, 8, 9, 10, 11, 12, 13, 31, 32, 33, 40, 50, 59, 60, 61, 64, 99, 100, 101, 127, 128, 239, 240, 241,
        999, 1000, 4095, 1000000, Integer.MAX_VALUE - 1, Integer.MAX_VALUE};
    private static final String[] TEXTS = {
        "p;p;r;w", "sh24k99;p;p;p;r;ra1b2;rb2;w;ws2", "p;p;p;p;p;p;p;r;ra1b2;ra2b3;ra3b4;ra4b5;ra5b6;ra6b0;w;w;w;ws6",
        "y:l", "y:!(l>[d+1]*2|n=3)&c<9?l*d-n;y:[r+y]/c", "y:9999*9999*9999-l", "y:((((((l>1))))))?1/[d-d]",
        "01", "0123456", "010101010101", "99", "0 0 0 0", "6 5 4 3 2 1 0",
        "p;p;p", "sh99", "y:[[[[[[[1", "y:!!!!!!!", "\u00ff\u00fe", "y:1+"};

    private static int anyNumber(Random draw) {
        int kind = draw.nextInt(10);
        if (kind == 0) {
            return draw.nextInt();
        }
        return kind < 4 ? EDGES[draw.nextInt(EDGES.length)] : draw.nextInt(8) - 1;
    }

    private static void feedAny(Random draw, RoadWheels x) {
        String text = TEXTS[draw.nextInt(TEXTS.length)];
        for (int i = 0; i < text.length(); i += 4) {
            int word = 0;
            for (int j = 0; j < 4; j++) {
                word = word << 8 | (i + j < text.length() ? text.charAt(i + j) : 0);
            }
            x.feed(word, 0, 0, 0, 0);
        }
        x.text(draw.nextInt(3));
        if (draw.nextInt(3) != 0) {
            x.end(0);
        }
    }

    private static Object[] anyArguments(Random draw, Method method) {
        Class<?>[] types = method.getParameterTypes();
        Object[] arguments = new Object[types.length];
        for (int i = 0; i < types.length; i++) {
            if (types[i] == boolean.class) {
                arguments[i] = draw.nextBoolean();
            } else if (types[i] == long.class) {
                arguments[i] = draw.nextLong();
            } else {
                arguments[i] = anyNumber(draw);
            }
        }
        return arguments;
    }

    private static List<Method> face() {
        List<Method> face = new ArrayList<>();
        for (Method method : RoadWheels.class.getDeclaredMethods()) {
            if (Modifier.isPublic(method.getModifiers())) {
                face.add(method);
            }
        }
        face.sort(Comparator.comparing(Method::getName));
        return face;
    }

    public static void main(String[] args) throws IllegalAccessException {
        List<Method> face = face();
        int wrong = 0;
        int calls = 0;
        for (int seed = 0; seed < RUNS && wrong < 20; seed++) {
            Random draw = new Random(seed);
            RoadWheels x = new RoadWheels();
            for (int i = 0; i < CALLS; i++) {
                if (draw.nextInt(20) == 0) {
                    feedAny(draw, x);
                }
                Method method = face.get(draw.nextInt(face.size()));
                Object[] arguments = anyArguments(draw, method);
                calls++;
                try {
                    method.invoke(x, arguments);
                } catch (InvocationTargetException e) {
                    boolean promised = method.getName().equals("wheels")
                            && e.getCause().getClass() == NoSuchElementException.class;
                    if (!promised) {
                        wrong++;
                        System.out.println("run " + seed + ": " + method.getName() + " threw " + e.getCause());
                    }
                }
            }
        }
        System.out.println(calls + " calls, " + wrong + " threw what they may not");
        if (wrong != 0) {
            System.exit(1);
        }
    }
}
