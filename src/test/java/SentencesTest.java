import java.io.IOException;
import java.nio.file.Files;
import java.nio.file.Path;
import java.util.ArrayList;
import java.util.List;
import java.util.TreeSet;
import java.util.regex.Matcher;
import java.util.regex.Pattern;

/**
 * Each sentence of the document is quoted by a test: what says(..) quotes in the other tests,
 * laid over the document, leaves nothing of its terms and promises but what is listed here.
 */
public final class SentencesTest {
    private static final Pattern QUOTE = Pattern.compile("says\\(\\s*\"((?:[^\"\\\\]|\\\\.)*)\"\\s*\\)");
    private static final Pattern HEADING = Pattern.compile("## Promise \\d+: [A-Za-z ]+?(?= `)");
    /** What is no sentence of its own: the numbers of parts, headings, what leads to a quote. */
    private static final String[] NO_SENTENCES = {"## Terms", "==== 2.", "==== 3.", "==== 4.", "The constants:"};

    private static List<String> quotes() throws IOException {
        List<String> quotes = new ArrayList<>();
        TreeSet<Path> files = new TreeSet<>();
        try (var all = Files.list(Path.of("src/test/java"))) {
            all.forEach(files::add);
        }
        for (Path file : files) {
            String text = Files.readString(file).replaceAll("\"\\s*\\+\\s*\"", "");
            Matcher found = QUOTE.matcher(text);
            while (found.find()) {
                quotes.add(found.group(1).replace("\\\"", "\"").replace("\\\\", "\\"));
            }
        }
        return quotes;
    }

    private static void cover(boolean[] covered, String document, String part) {
        for (int at = document.indexOf(part); at >= 0; at = document.indexOf(part, at + 1)) {
            java.util.Arrays.fill(covered, at, at + part.length(), true);
        }
    }

    public static void main(String[] args) throws IOException {
        String document = Check.document();
        boolean[] covered = new boolean[document.length()];
        List<String> quotes = quotes();
        for (String quote : quotes) {
            cover(covered, document, quote);
        }
        for (String part : NO_SENTENCES) {
            cover(covered, document, part);
        }
        Matcher headings = HEADING.matcher(document);
        while (headings.find()) {
            java.util.Arrays.fill(covered, headings.start(), headings.end(), true);
        }
        int left = 0;
        StringBuilder run = new StringBuilder();
        int end = document.indexOf("## Not promised");
        for (int i = document.indexOf("## Terms"); i <= end; i++) {
            if (i < end && !covered[i]) {
                run.append(document.charAt(i));
            } else if (run.length() > 0) {
                if (!run.toString().isBlank()) {
                    left++;
                    System.out.println("no test quotes: " + run);
                }
                run.setLength(0);
            }
        }
        System.out.println(quotes.size() + " quotes, " + left + " parts of the document without one");
        if (left != 0 || quotes.isEmpty()) {
            System.exit(1);
        }
    }
}
