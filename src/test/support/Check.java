import java.io.IOException;
import java.nio.file.Files;
import java.nio.file.Path;
import java.util.NoSuchElementException;

/** What the tests share: texts that are told, answers that are due, the document's sentences. */
final class Check {
    static final int NONE = RoadWheels.NONE;
    static final int HIDDEN = RoadWheels.HIDDEN;
    /** Told instead of an answer of wheels, which has none below NONE of its own. */
    static final int THROWN = -77;

    private static final int MOST_SHOWN = 60;

    private static final String DOCUMENT = document();
    private static String sentence = "";
    private static int asked = 0;
    private static int wrong = 0;

    private Check() {
    }

    /** The document as one row of words, so that a quote may go over its lines. */
    static String document() {
        try {
            String text = Files.readString(Path.of("../shared/DOC.md"));
            return inOneRow(text.replace("```text", " ").replace("```", " "));
        } catch (IOException e) {
            throw new IllegalStateException("../shared/DOC.md is not there", e);
        }
    }

    static String inOneRow(String text) {
        return text.replaceAll("\\s+", " ").trim();
    }

    /** The sentence that what follows tests, as the document has it. */
    static void says(String quote) {
        sentence = quote;
        int at = DOCUMENT.indexOf(quote);
        if (at < 0 || at != DOCUMENT.lastIndexOf(quote)) {
            fail("the document does not say this just once");
        }
    }

    static void due(String what, long got, long want) {
        asked++;
        if (got != want) {
            fail(what + " answered " + got + ", due is " + want);
        }
    }

    static void due(String what, boolean got, boolean want) {
        due(what, got ? 1 : 0, want ? 1 : 0);
    }

    static void fail(String what) {
        wrong++;
        if (wrong <= MOST_SHOWN) {
            System.out.println((sentence.isEmpty() ? "" : "\"" + sentence + "\": ") + what);
        }
    }

    /** Prints how many answers there were; ends with exit code 1 if one was not as due. */
    static void finish() {
        System.out.println(asked + " answers, " + wrong + " not as due");
        if (wrong != 0) {
            System.exit(1);
        }
    }

    /** Twenty bytes a call; what the last call answered. */
    static int feed(RoadWheels x, String text) {
        int size = NONE;
        for (int i = 0; i < text.length() || i == 0; i += 20) {
            int[] words = new int[5];
            for (int j = 0; j < 20; j++) {
                int sign = i + j < text.length() ? text.charAt(i + j) : 0;
                words[j / 4] |= sign << 24 - j % 4 * 8;
            }
            size = x.feed(words[0], words[1], words[2], words[3], words[4]);
        }
        return size;
    }

    static int tell(RoadWheels x, int sort, String text) {
        x.end(0);
        feed(x, text);
        return x.text(sort);
    }

    static RoadWheels county(String text, String... ways) {
        RoadWheels x = new RoadWheels();
        tell(x, 0, text);
        for (String way : ways) {
            tell(x, 2, way);
        }
        return x;
    }

    /** The same with a LAW that holds. */
    static RoadWheels lawful(String law, String text, String... ways) {
        RoadWheels x = county(text, ways);
        x.law(tell(x, 1, law));
        return x;
    }

    static int wheels(RoadWheels x, int set, int what) {
        try {
            return x.wheels(set, what);
        } catch (NoSuchElementException e) {
            return THROWN;
        }
    }

    static int fault(int sort, String text) {
        RoadWheels x = new RoadWheels();
        feed(x, text);
        return x.fault(sort);
    }

    /** The FAULT of a text, and that text() refuses just what has one. */
    static void faultDue(int sort, String text, int want) {
        RoadWheels x = new RoadWheels();
        feed(x, text);
        due("fault(" + sort + ") of \"" + text + "\"", x.fault(sort), want);
        boolean taken = x.text(sort) != NONE;
        due("text(" + sort + ") takes \"" + text + "\"", taken, want == NONE);
        due("bytes behind text(" + sort + ") of \"" + text + "\"", x.count(5), taken ? 0 : text.length());
    }

    static String times(int n, String text, String between) {
        StringBuilder all = new StringBuilder();
        for (int i = 0; i < n; i++) {
            all.append(i == 0 ? "" : between).append(text);
        }
        return all.toString();
    }
}
