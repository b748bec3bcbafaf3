import com.sun.source.tree.AssertTree;
import com.sun.source.tree.BinaryTree;
import com.sun.source.tree.ClassTree;
import com.sun.source.tree.CompilationUnitTree;
import com.sun.source.tree.CompoundAssignmentTree;
import com.sun.source.tree.ImportTree;
import com.sun.source.tree.LambdaExpressionTree;
import com.sun.source.tree.MemberReferenceTree;
import com.sun.source.tree.MethodInvocationTree;
import com.sun.source.tree.MethodTree;
import com.sun.source.tree.NewArrayTree;
import com.sun.source.tree.NewClassTree;
import com.sun.source.tree.SynchronizedTree;
import com.sun.source.tree.ThrowTree;
import com.sun.source.tree.Tree;
import com.sun.source.tree.TryTree;
import com.sun.source.tree.VariableTree;
import com.sun.source.util.JavacTask;
import com.sun.source.util.TreePath;
import com.sun.source.util.TreePathScanner;
import com.sun.source.util.Trees;
import java.io.IOException;
import java.nio.file.Files;
import java.nio.file.Path;
import java.util.ArrayList;
import java.util.HashMap;
import java.util.HashSet;
import java.util.List;
import java.util.Map;
import java.util.Set;
import java.util.TreeMap;
import java.util.TreeSet;
import java.util.regex.Matcher;
import java.util.regex.Pattern;
import javax.lang.model.element.Element;
import javax.lang.model.element.Modifier;
import javax.tools.JavaCompiler;
import javax.tools.StandardJavaFileManager;
import javax.tools.ToolProvider;

/** Those rules of LANGUAGE.md that can be read off the class's text: a landing outside them is sent back. */
public final class LanguageTest {
    private static final Path SOURCE = Path.of("src/main/java/RoadWheels.java");
    private static final Map<String, Set<String>> LIBRARY = Map.of(
        "java.lang.String", Set.of("length", "charAt", "isEmpty", "equals", "indexOf", "substring", "toCharArray"),
        "java.lang.StringBuilder", Set.of("append", "charAt", "setCharAt", "setLength", "deleteCharAt", "reverse", "length", "toString"),
        "java.util.ArrayList", Set.of("add", "get", "set", "remove", "size", "isEmpty", "clear"),
        "java.util.List", Set.of("add", "get", "set", "remove", "size", "isEmpty", "clear", "of"),
        "java.lang.System", Set.of("arraycopy"),
        "java.util.Arrays", Set.of("copyOf", "copyOfRange", "fill"));
    private static final Set<String> COUNTING = Set.of("java.lang.Integer", "java.lang.Long", "java.lang.Math");
    private static final Set<String> THROWN = Set.of("IllegalStateException", "IllegalArgumentException",
        "IndexOutOfBoundsException", "ArithmeticException", "UnsupportedOperationException", "NoSuchElementException", "RuntimeException");
    private static final Set<String> CONSTANTS = Set.of("int", "long", "boolean", "char", "String", "int[]", "long[]", "char[]", "byte[]");
    private static final int MOST_PARAMETERS = 7;
    private static final int MOST_LINES = 60;
    private static final int MOST_CLASSES = 12;
    private static final int MOST_FIELDS = 20;
    private static final int MOST_DEEP = 8;

    private static int wrong = 0;

    private static void rule(int number, boolean kept, String what) {
        if (!kept) {
            wrong++;
            System.out.println("rule " + number + ": " + what);
        }
    }

    /** The names of the methods of the document's face, with what they answer and are given. */
    private static Map<String, String> face() throws IOException {
        String document = Files.readString(Path.of("../shared/DOC.md"));
        String code = document.substring(document.indexOf("```java"), document.indexOf("## Terms"));
        Matcher found = Pattern.compile("public (int|boolean) (\\w+)\\(([^)]*)\\)").matcher(code);
        Map<String, String> face = new TreeMap<>();
        while (found.find()) {
            face.put(found.group(2), found.group(1) + "(" + found.group(3) + ")");
        }
        return face;
    }

    private static final class Reader extends TreePathScanner<Void, Void> {
        private final CompilationUnitTree unit;
        private final Trees trees;
        private final Map<String, String> face;
        private final Set<String> faceFound = new HashSet<>();
        private final Map<String, Set<String>> calls = new TreeMap<>();
        private String method = "";
        private int classes = 0;

        Reader(CompilationUnitTree unit, Trees trees, Map<String, String> face) {
            this.unit = unit;
            this.trees = trees;
            this.face = face;
        }

        private String at(Tree tree) {
            return "line " + unit.getLineMap().getLineNumber(trees.getSourcePositions().getStartPosition(unit, tree));
        }

        @Override
        public Void visitImport(ImportTree tree, Void none) {
            Set<String> imports = Set.of("java.util.NoSuchElementException", "java.util.ArrayList", "java.util.List",
                "java.util.Arrays", "java.util.Iterator");
            rule(4, imports.contains(tree.getQualifiedIdentifier().toString()), "import " + tree.getQualifiedIdentifier());
            return super.visitImport(tree, none);
        }

        @Override
        public Void visitClass(ClassTree tree, Void none) {
            classes++;
            Set<Modifier> modifiers = tree.getModifiers().getFlags();
            if (tree.getSimpleName().contentEquals("RoadWheels")) {
                rule(1, modifiers.contains(Modifier.PUBLIC) && modifiers.contains(Modifier.FINAL), "the class is public and final");
            } else {
                rule(1, modifiers.contains(Modifier.STATIC) && !modifiers.contains(Modifier.PUBLIC), "class " + tree.getSimpleName());
            }
            int fields = 0;
            for (Tree member : tree.getMembers()) {
                rule(5, member.getKind() != Tree.Kind.BLOCK, "an initialiser block, " + at(member));
                boolean constant = member instanceof VariableTree field && field.getModifiers().getFlags().contains(Modifier.STATIC);
                fields += member instanceof VariableTree && !constant ? 1 : 0;
            }
            rule(11, fields <= MOST_FIELDS, fields + " fields of " + tree.getSimpleName());
            String before = method;
            method = tree.getSimpleName() + ".<init>";
            super.visitClass(tree, none);
            method = before;
            return null;
        }

        @Override
        public Void visitVariable(VariableTree tree, Void none) {
            Set<Modifier> modifiers = tree.getModifiers().getFlags();
            if (modifiers.contains(Modifier.STATIC)) {
                rule(5, modifiers.contains(Modifier.FINAL), "static " + tree.getName() + " is final");
                rule(5, CONSTANTS.contains(tree.getType().toString()), "static " + tree.getName() + " is " + tree.getType());
            }
            boolean isField = getCurrentPath().getParentPath().getLeaf() instanceof ClassTree;
            boolean shown = tree.getName().contentEquals("NONE") || tree.getName().contentEquals("HIDDEN");
            rule(1, !isField || modifiers.contains(Modifier.PRIVATE) || shown, "field " + tree.getName() + " is private");
            return super.visitVariable(tree, none);
        }

        @Override
        public Void visitMethod(MethodTree tree, Void none) {
            String owner = ((ClassTree) getCurrentPath().getParentPath().getLeaf()).getSimpleName().toString();
            String name = tree.getName().toString();
            Set<Modifier> modifiers = tree.getModifiers().getFlags();
            boolean inFace = owner.equals("RoadWheels") && face.containsKey(name);
            boolean made = name.equals("<init>");
            if (inFace) {
                String given = tree.getParameters().toString().replaceAll("/\\*.*?\\*/", "").replace(",", ", ").replaceAll("\\s+", " ").trim();
                rule(1, face.get(name).equals(tree.getReturnType() + "(" + given + ")"), name + " is given " + given);
                faceFound.add(name);
            }
            boolean hidden = modifiers.contains(Modifier.PRIVATE) || !owner.equals("RoadWheels");
            rule(1, made || inFace == modifiers.contains(Modifier.PUBLIC) && (inFace || hidden), name + " of " + owner + " is seen");
            rule(1, inFace || !face.containsKey(name), name + " of " + owner + " bears the name of a public one");
            rule(6, !Set.of("equals", "hashCode", "toString").contains(name), name + " of " + owner);
            rule(11, tree.getParameters().size() <= MOST_PARAMETERS, name + " is given " + tree.getParameters().size());
            long lines = line(trees.getSourcePositions().getEndPosition(unit, tree))
                - line(trees.getSourcePositions().getStartPosition(unit, tree)) + 1;
            rule(11, lines <= MOST_LINES, name + " has " + lines + " lines");
            String before = method;
            method = owner + "." + name;
            callsOf(method);
            super.visitMethod(tree, none);
            method = before;
            return null;
        }

        private Set<String> callsOf(String name) {
            return calls.computeIfAbsent(name, key -> new TreeSet<>());
        }

        private long line(long position) {
            return unit.getLineMap().getLineNumber(position);
        }

        @Override
        public Void visitMethodInvocation(MethodInvocationTree tree, Void none) {
            Element called = trees.getElement(new TreePath(getCurrentPath(), tree.getMethodSelect()));
            String name = called.getSimpleName().toString();
            String owner = called.getEnclosingElement().toString();
            if (owner.startsWith("RoadWheels")) {
                callsOf(method).add(owner.substring(owner.lastIndexOf('.') + 1) + "." + name);
            } else if (!name.equals("<init>")) {
                boolean counts = COUNTING.contains(owner) && !name.endsWith("Exact");
                boolean allowed = LIBRARY.getOrDefault(owner, Set.of()).contains(name);
                boolean clone = name.equals("clone") || owner.equals("Array");
                rule(4, counts || allowed || clone, owner + "." + name + ", " + at(tree));
            }
            return super.visitMethodInvocation(tree, none);
        }

        @Override
        public Void visitNewClass(NewClassTree tree, Void none) {
            Element made = trees.getElement(getCurrentPath());
            String owner = made.getEnclosingElement().toString();
            boolean library = Set.of("java.lang.StringBuilder", "java.util.ArrayList", "java.lang.String").contains(owner);
            rule(4, owner.startsWith("RoadWheels") || library || THROWN.contains(tree.getIdentifier().toString()), "new " + owner);
            if (owner.startsWith("RoadWheels")) {
                callsOf(method).add(owner.substring(owner.lastIndexOf('.') + 1) + ".<init>");
            }
            boolean thrown = getCurrentPath().getParentPath().getLeaf() instanceof ThrowTree;
            rule(12, thrown || method.endsWith(".<init>"), "new " + owner + " behind the constructor, " + at(tree));
            return super.visitNewClass(tree, none);
        }

        /** Rows are made once, and used again by each call. */
        @Override
        public Void visitNewArray(NewArrayTree tree, Void none) {
            rule(12, method.endsWith(".<init>"), "a row made behind the constructor, " + at(tree));
            return super.visitNewArray(tree, none);
        }

        @Override
        public Void visitThrow(ThrowTree tree, Void none) {
            boolean listed = tree.getExpression() instanceof NewClassTree made && THROWN.contains(made.getIdentifier().toString());
            rule(6, listed, "throw " + tree.getExpression());
            rule(6, !method.endsWith("<init>"), "a throw in " + method);
            return super.visitThrow(tree, none);
        }

        @Override
        public Void visitTry(TryTree tree, Void none) {
            rule(6, tree.getFinallyBlock() == null && tree.getResources().isEmpty(), "finally or resources, " + at(tree));
            tree.getCatches().forEach(caught -> rule(6, THROWN.contains(caught.getParameter().getType().toString()),
                "catch " + caught.getParameter()));
            return super.visitTry(tree, none);
        }

        @Override
        public Void visitBinary(BinaryTree tree, Void none) {
            boolean joins = tree.getKind() == Tree.Kind.PLUS
                && trees.getTypeMirror(getCurrentPath()).toString().equals("java.lang.String");
            rule(10, !joins, "texts joined by +, " + at(tree));
            return super.visitBinary(tree, none);
        }

        @Override
        public Void visitCompoundAssignment(CompoundAssignmentTree tree, Void none) {
            rule(10, !trees.getTypeMirror(getCurrentPath()).toString().equals("java.lang.String"), "texts joined, " + at(tree));
            return super.visitCompoundAssignment(tree, none);
        }

        @Override
        public Void visitLambdaExpression(LambdaExpressionTree tree, Void none) {
            rule(2, false, "a lambda, " + at(tree));
            return super.visitLambdaExpression(tree, none);
        }

        @Override
        public Void visitMemberReference(MemberReferenceTree tree, Void none) {
            rule(2, false, "a method reference, " + at(tree));
            return super.visitMemberReference(tree, none);
        }

        @Override
        public Void visitSynchronized(SynchronizedTree tree, Void none) {
            rule(6, false, "synchronized, " + at(tree));
            return super.visitSynchronized(tree, none);
        }

        @Override
        public Void visitAssert(AssertTree tree, Void none) {
            rule(6, false, "assert, " + at(tree));
            return super.visitAssert(tree, none);
        }
    }

    /** How deep calls go from each method; those that call one another count as one. */
    private static final class Depths {
        private final Map<String, Set<String>> calls;
        private final Map<String, Set<String>> reached = new HashMap<>();
        private final Map<String, Integer> depths = new HashMap<>();

        Depths(Map<String, Set<String>> calls) {
            this.calls = calls;
            for (String from : calls.keySet()) {
                Set<String> all = new HashSet<>();
                List<String> left = new ArrayList<>(calls.get(from));
                while (!left.isEmpty()) {
                    String next = left.remove(left.size() - 1);
                    if (all.add(next)) {
                        left.addAll(calls.getOrDefault(next, Set.of()));
                    }
                }
                reached.put(from, all);
            }
        }

        private boolean together(String one, String other) {
            return reached.getOrDefault(one, Set.of()).contains(other) && reached.getOrDefault(other, Set.of()).contains(one);
        }

        int of(String from) {
            Integer known = depths.get(from);
            if (known != null) {
                return known;
            }
            Set<String> group = new TreeSet<>(Set.of(from));
            calls.keySet().stream().filter(other -> together(from, other)).forEach(group::add);
            int below = 0;
            for (String member : group) {
                for (String next : calls.getOrDefault(member, Set.of())) {
                    below = group.contains(next) ? below : Math.max(below, of(next));
                }
            }
            for (String member : group) {
                depths.put(member, below + 1);
            }
            return below + 1;
        }
    }

    public static void main(String[] args) throws IOException {
        JavaCompiler compiler = ToolProvider.getSystemJavaCompiler();
        try (StandardJavaFileManager files = compiler.getStandardFileManager(null, null, null)) {
            JavacTask task = (JavacTask) compiler.getTask(null, files, null, List.of("-proc:none"), null, files.getJavaFileObjects(SOURCE));
            CompilationUnitTree unit = task.parse().iterator().next();
            task.analyze();
            Map<String, String> face = face();
            Reader reader = new Reader(unit, Trees.instance(task), face);
            reader.scan(unit, null);
            rule(1, face.size() == 40 && reader.faceFound.equals(face.keySet()), "the face has " + reader.faceFound);
            rule(11, reader.classes <= MOST_CLASSES, reader.classes + " classes");
            Depths depths = new Depths(reader.calls);
            int deepest = 0;
            for (String method : reader.calls.keySet()) {
                int deep = depths.of(method);
                deepest = Math.max(deepest, deep);
                rule(11, deep <= MOST_DEEP, "calls go " + deep + " deep from " + method);
            }
            rule(4, Files.readString(SOURCE).chars().allMatch(sign -> sign < 128), "signs above 127");
            System.out.println(reader.calls.size() + " methods, calls go " + deepest + " deep, " + wrong + " rules broken");
        }
        if (wrong != 0) {
            System.exit(1);
        }
    }
}
