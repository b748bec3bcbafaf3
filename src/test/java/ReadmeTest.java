import java.io.IOException;
import java.lang.reflect.InvocationTargetException;
import java.lang.reflect.Method;
import java.lang.reflect.Modifier;
import java.net.URL;
import java.net.URLClassLoader;
import java.nio.file.Files;
import java.nio.file.Path;
import java.util.ArrayList;
import java.util.HashMap;
import java.util.List;
import java.util.Map;
import java.util.TreeSet;
import java.util.regex.Matcher;
import java.util.regex.Pattern;
import java.util.stream.Stream;
import javax.tools.JavaCompiler;
import javax.tools.ToolProvider;

/**
 * The examples of README.md compile and answer what stands behind them; its table of what refused
 * calls answer holds for each method; no method and no test is left out of it.
 */
public final class ReadmeTest {
    private static final Pattern BLOCK = Pattern.compile("```java\n(.*?)```", Pattern.DOTALL);
    private static final Pattern CALL = Pattern.compile("(\\w+\\.(\\w+)\\(.*?\\));\\s+// ([\\w-]+): .+");
    private static final Pattern TOLD = Pattern.compile("RoadWheels (\\w+) = new RoadWheels\\(\\);|feed\\(\\w+, \"[^\"]*\"\\);");
    private static final Pattern SORT_ROW = Pattern.compile("\\| (\\d) \\| [^|]* \\| `([^`]*)` \\|");
    private static final Pattern TABLE_ROW = Pattern.compile("\\| (.*?) \\| (.*?) \\|");
    private static final Pattern NAMED = Pattern.compile("`(-?\\w+)`");
    private static final String OTHERS = "all others";

    private final String page;
    private final StringBuilder members = new StringBuilder();
    private final StringBuilder statements = new StringBuilder();
    private final List<String> calls = new ArrayList<>();
    private final List<String> wanted = new ArrayList<>();
    private final TreeSet<String> called = new TreeSet<>();

    private ReadmeTest(String page) {
        this.page = page;
        Matcher blocks = BLOCK.matcher(page);
        while (blocks.find()) {
            if (blocks.group(1).startsWith("static ")) {
                members.append(blocks.group(1));
            } else {
                blocks.group(1).lines().forEach(this::readLine);
            }
        }
    }

    private void readLine(String line) {
        Matcher call = CALL.matcher(line);
        if (call.matches()) {
            statements.append("try { answers.add(String.valueOf(").append(call.group(1)).append(")); }\n")
                .append("catch (java.util.NoSuchElementException e) { answers.add(\"NoSuchElementException\"); }\n");
            calls.add(call.group(1));
            called.add(call.group(2));
            wanted.add(inNumbers(call.group(3)));
        } else if (TOLD.matcher(line).matches()) {
            statements.append(line).append('\n');
        } else {
            Check.fail("README.md shows a line without an answer: " + line);
        }
    }

    private static String inNumbers(String answer) {
        return switch (answer) {
            case "NONE" -> "-1";
            case "HIDDEN" -> "-1000000";
            default -> answer;
        };
    }

    private static void same(String what, String got, String want) {
        Check.due(what + " (answered " + got + ", README.md says " + want + ")", got.equals(want), true);
    }

    /** All examples are one run, in their order, each object used on from block to block. */
    private List<?> answers(Path folder) throws IOException, ReflectiveOperationException {
        Path source = folder.resolve("ReadmeRun.java");
        Files.writeString(source, "public final class ReadmeRun {\n" + members
            + "public static java.util.List<String> answers() {\n"
            + "java.util.List<String> answers = new java.util.ArrayList<>();\n" + statements + "return answers;\n}\n}\n");
        JavaCompiler compiler = ToolProvider.getSystemJavaCompiler();
        String classes = System.getProperty("java.class.path");
        if (compiler.run(null, null, null, "-proc:none", "-cp", classes, "-d", folder.toString(), source.toString()) != 0) {
            Check.fail("the examples of README.md do not compile");
            return List.of();
        }
        try (URLClassLoader loader = new URLClassLoader(new URL[] {folder.toUri().toURL()}, ReadmeTest.class.getClassLoader())) {
            return (List<?>) loader.loadClass("ReadmeRun").getMethod("answers").invoke(null);
        }
    }

    private void examplesHold() throws IOException, ReflectiveOperationException {
        Path folder = Files.createTempDirectory("readme");
        List<?> answers = answers(folder);
        Check.due("answers of the examples", answers.size(), calls.size());
        for (int i = 0; i < answers.size() && i < calls.size(); i++) {
            same(calls.get(i), String.valueOf(answers.get(i)), wanted.get(i));
        }
        try (Stream<Path> files = Files.list(folder)) {
            for (Path file : files.toList()) {
                Files.delete(file);
            }
        }
        Files.delete(folder);
    }

    private void textsAreWithoutFault() {
        int sorts = 0;
        Matcher rows = SORT_ROW.matcher(page);
        while (rows.find()) {
            Check.due("the sort in its row", Integer.parseInt(rows.group(1)), sorts);
            Check.faultDue(sorts, rows.group(2), Check.NONE);
            sorts++;
        }
        Check.due("sorts of texts", sorts, 3);
    }

    private static List<Method> face() {
        List<Method> face = new ArrayList<>();
        for (Method method : RoadWheels.class.getDeclaredMethods()) {
            if (Modifier.isPublic(method.getModifiers())) {
                face.add(method);
            }
        }
        return face;
    }

    /** feed stands in the member that the examples use, wherever a text is told. */
    private void eachMethodIsShown() {
        for (Method method : face()) {
            boolean shown = called.contains(method.getName()) || members.indexOf("x." + method.getName() + "(") >= 0;
            Check.due("README.md shows a call of " + method.getName(), shown, true);
        }
    }

    private Map<String, String> refusals() {
        Map<String, String> refusals = new HashMap<>();
        String part = page.substring(page.indexOf("### What a refused call answers"), page.indexOf("## How to run"));
        Matcher rows = TABLE_ROW.matcher(part);
        while (rows.find()) {
            Matcher answer = NAMED.matcher(rows.group(2));
            if (answer.find()) {
                Matcher names = NAMED.matcher(rows.group(1).equals(OTHERS) ? "`" + OTHERS.replace(' ', '_') + "`" : rows.group(1));
                while (names.find()) {
                    refusals.put(names.group(1), inNumbers(answer.group(1)));
                }
            }
        }
        return refusals;
    }

    /** Without a COUNTY, with a full TAPE, and with numbers that are never there, all is refused. */
    private static String refused(Method method) throws ReflectiveOperationException {
        RoadWheels x = new RoadWheels();
        for (int i = 0; i < 12; i++) {
            x.feed(-2, -2, -2, -2, -2);
        }
        Object[] given = new Object[method.getParameterCount()];
        for (int i = 0; i < given.length; i++) {
            Class<?> type = method.getParameterTypes()[i];
            given[i] = type == int.class ? (Object) (-2) : type == long.class ? (Object) 0L : (Object) true;
        }
        try {
            return String.valueOf(method.invoke(x, given));
        } catch (InvocationTargetException e) {
            return e.getCause().getClass().getSimpleName();
        }
    }

    private void refusalsHold() throws ReflectiveOperationException {
        Map<String, String> refusals = refusals();
        String others = refusals.get(OTHERS.replace(' ', '_'));
        Check.due("README.md says what all others answer", others != null, true);
        for (Method method : face()) {
            same(method.getName() + " refused", refused(method), refusals.getOrDefault(method.getName(), others));
        }
    }

    private void eachTestIsNamed() throws IOException {
        try (Stream<Path> files = Files.list(Path.of("src/test/java"))) {
            for (Path file : files.toList()) {
                Check.due("README.md names " + file, page.contains("`" + file.getFileName() + "`"), true);
            }
        }
    }

    public static void main(String[] args) throws IOException, ReflectiveOperationException {
        ReadmeTest readme = new ReadmeTest(Files.readString(Path.of("README.md")));
        readme.examplesHold();
        readme.textsAreWithoutFault();
        readme.eachMethodIsShown();
        readme.refusalsHold();
        readme.eachTestIsNamed();
        Check.finish();
    }
}
