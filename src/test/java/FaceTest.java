import java.io.IOException;
import java.lang.reflect.Constructor;
import java.lang.reflect.Executable;
import java.lang.reflect.Field;
import java.lang.reflect.Member;
import java.lang.reflect.Method;
import java.lang.reflect.Modifier;
import java.nio.file.Files;
import java.nio.file.Path;
import java.util.TreeSet;
import java.util.function.Supplier;
import java.util.regex.Matcher;
import java.util.regex.Pattern;

/**
 * "The public face": all members of the compiled class that are not private, written as the
 * document writes them, are the document's, no more and no fewer.
 */
public final class FaceTest {
    private static final Pattern MEMBER = Pattern.compile("public [^;{]*;");
    private static final Pattern PARAMETER_NAME = Pattern.compile("(int|long|boolean) \\w+(?=[,)])");

    private static TreeSet<String> ofTheDocument() throws IOException {
        String document = Files.readString(Path.of("../shared/DOC.md"));
        String code = document.substring(document.indexOf("public final class RoadWheels {"), document.indexOf("## Terms"));
        TreeSet<String> members = new TreeSet<>();
        Matcher found = MEMBER.matcher(code.substring(code.indexOf('{')));
        while (found.find()) {
            members.add(PARAMETER_NAME.matcher(found.group()).replaceAll("$1").replaceAll("\\s+", " "));
        }
        return members;
    }

    private static TreeSet<String> ofTheClass() throws IllegalAccessException {
        TreeSet<String> members = new TreeSet<>();
        for (Field field : RoadWheels.class.getDeclaredFields()) {
            if (isSeen(field)) {
                members.add(words(field) + field.getType().getSimpleName() + " " + field.getName() + valueOf(field) + ";");
            }
        }
        for (Constructor<?> made : RoadWheels.class.getDeclaredConstructors()) {
            if (isSeen(made)) {
                members.add(words(made) + "RoadWheels" + given(made) + ";");
            }
        }
        for (Method method : RoadWheels.class.getDeclaredMethods()) {
            if (isSeen(method)) {
                members.add(words(method) + method.getReturnType().getSimpleName() + " " + method.getName() + given(method) + ";");
            }
        }
        return members;
    }

    /** Members that the compiler adds of its own count, too: they could be called as others can. */
    private static boolean isSeen(Member member) {
        return !Modifier.isPrivate(member.getModifiers());
    }

    private static String words(Member member) {
        String words = Modifier.toString(member.getModifiers());
        return words.isEmpty() ? "" : words + " ";
    }

    private static String valueOf(Field field) throws IllegalAccessException {
        return Modifier.isStatic(field.getModifiers()) ? " = " + field.get(null) : "";
    }

    private static String given(Executable called) {
        StringBuilder text = new StringBuilder("(");
        for (Class<?> type : called.getParameterTypes()) {
            text.append(text.length() > 1 ? ", " : "").append(type.getSimpleName());
        }
        text.append(")");
        for (Class<?> type : called.getExceptionTypes()) {
            text.append(" throws ").append(type.getSimpleName());
        }
        return text.toString();
    }

    private static void sameMembers(TreeSet<String> due, TreeSet<String> there) {
        for (String member : due) {
            Check.due("the class has " + member, there.contains(member), true);
        }
        for (String member : there) {
            Check.due("the document has " + member, due.contains(member), true);
        }
    }

    private static void theClassItself() {
        Class<?> type = RoadWheels.class;
        Check.due("the class is public and final", type.getModifiers(), Modifier.PUBLIC | Modifier.FINAL);
        Check.due("the class has no package", type.getPackageName().isEmpty(), true);
        Check.due("the class stands by itself", type.getSuperclass() == Object.class && type.getInterfaces().length == 0, true);
        for (Class<?> inside : type.getDeclaredClasses()) {
            int words = inside.getModifiers();
            boolean apart = Modifier.isStatic(words) && !Modifier.isPublic(words) && !Modifier.isProtected(words);
            Check.due(inside.getSimpleName() + " is static and not seen", apart, true);
        }
    }

    /** A new object has all of its own: what one is told, another does not know. */
    private static void objectsAreApart() {
        Supplier<RoadWheels> made = RoadWheels::new;
        RoadWheels told = made.get();
        RoadWheels other = made.get();
        Check.tell(told, 0, "p;p;r;w");
        Check.tell(told, 1, "y:5");
        Check.tell(told, 2, "01");
        told.law(0);
        told.flood(7);
        told.bars(9);
        Check.feed(told, "p");
        int[] due = {0, 0, 0, 0, 0, 0, Check.NONE, 0, 2, 0, 0, 0};
        for (int what = 0; what < due.length; what++) {
            Check.due("count(" + what + ") of the other", other.count(what), due[what]);
        }
        Check.due("status(0) of the other", other.status(0), 0);
    }

    public static void main(String[] args) throws IOException, IllegalAccessException {
        TreeSet<String> due = ofTheDocument();
        Check.due("members of the document's face", due.size(), 2 + 1 + 40);
        sameMembers(due, ofTheClass());
        theClassItself();
        objectsAreApart();
        Check.finish();
    }
}
