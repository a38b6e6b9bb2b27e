import com.sun.source.tree.*;
import com.sun.source.util.JavacTask;
import com.sun.source.util.TreePath;
import com.sun.source.util.TreePathScanner;
import com.sun.source.util.Trees;
import java.nio.file.Path;
import java.util.*;
import javax.lang.model.element.Element;
import javax.lang.model.element.ElementKind;
import javax.lang.model.element.ExecutableElement;
import javax.lang.model.element.Modifier;
import javax.lang.model.element.TypeElement;
import javax.tools.JavaCompiler;
import javax.tools.StandardJavaFileManager;
import javax.tools.ToolProvider;

/** Holds src/main/java/FlyerRoom.java against those rules of LANGUAGE.md that a compiler's tree can show. */
public final class LanguageTest {
    private static final String FILE = "src/main/java/FlyerRoom.java";
    private static final Set<String> FACE = Set.of("lanes", "step", "part", "slot", "unslot", "word", "aside", "sensor",
        "body", "air", "limit", "write", "erase", "fault", "fly", "now", "cell", "lane", "voted", "sensed", "harm", "piece",
        "leave", "seal", "begin", "fate", "fates", "box", "unbox", "cause", "guess", "clock", "near", "image", "from",
        "count", "digest");
    private static final Set<String> CONSTANTS = Set.of("NONE", "BAD", "NO", "FULL");
    private static final Set<String> LIBRARY = Set.of("Math.abs", "Math.min", "Math.max", "Integer.bitCount",
        "System.arraycopy", "Object.<init>");
    private static final Set<Tree.Kind> FORBIDDEN = EnumSet.of(Tree.Kind.THROW, Tree.Kind.TRY, Tree.Kind.SYNCHRONIZED,
        Tree.Kind.ASSERT, Tree.Kind.LAMBDA_EXPRESSION, Tree.Kind.MEMBER_REFERENCE, Tree.Kind.ENHANCED_FOR_LOOP,
        Tree.Kind.STRING_LITERAL, Tree.Kind.IMPORT, Tree.Kind.PACKAGE, Tree.Kind.INSTANCE_OF, Tree.Kind.DOUBLE_LITERAL);

    private static int wrong = 0;

    private static void broken(int rule, String what) {
        wrong++;
        System.out.println("rule " + rule + ": " + what);
    }

    private static final class Reader extends TreePathScanner<Void, Void> {
        final Trees trees;
        final CompilationUnitTree unit;
        final Map<String, Set<String>> calls = new TreeMap<>();
        int classes = 0;
        String method = null;

        Reader(Trees trees, CompilationUnitTree unit) {
            this.trees = trees;
            this.unit = unit;
        }

        private long line(long position) {
            return unit.getLineMap().getLineNumber(position);
        }

        private static String named(Element e) {
            return e.getEnclosingElement().getSimpleName() + "." + e.getSimpleName();
        }

        @Override
        public Void scan(Tree tree, Void v) {
            if (tree != null && FORBIDDEN.contains(tree.getKind())) {
                broken(6, tree.getKind() + " at line " + line(trees.getSourcePositions().getStartPosition(unit, tree)));
            }
            return super.scan(tree, v);
        }

        @Override
        public Void visitClass(ClassTree tree, Void v) {
            classes++;
            boolean top = tree.getSimpleName().contentEquals("FlyerRoom");
            Set<Modifier> flags = tree.getModifiers().getFlags();
            if (!top && !flags.contains(Modifier.STATIC)) broken(2, tree.getSimpleName() + " is not static");
            if (top && !flags.containsAll(Set.of(Modifier.PUBLIC, Modifier.FINAL))) broken(1, "the class is not public final");
            int fields = 0;
            Set<String> publicOnes = new TreeSet<>();
            for (Tree member : tree.getMembers()) {
                if (member instanceof VariableTree f) {
                    Set<Modifier> m = f.getModifiers().getFlags();
                    if (!m.contains(Modifier.STATIC)) fields++;
                    else if (!m.contains(Modifier.FINAL)) broken(5, "static " + f.getName() + " is not final");
                    if (top && m.contains(Modifier.PUBLIC)) publicOnes.add(f.getName().toString());
                    else if (top && !m.contains(Modifier.PRIVATE)) broken(1, f.getName() + " is not private");
                } else if (member instanceof MethodTree m) {
                    Set<Modifier> f = m.getModifiers().getFlags();
                    boolean isFace = top && f.contains(Modifier.PUBLIC);
                    String name = m.getName().toString();
                    if (isFace && !name.equals("<init>")) publicOnes.add(name);
                    if (!isFace && FACE.contains(name)) broken(1, name + " bears the name of a public one");
                    if (top && !isFace && !f.contains(Modifier.PRIVATE)) broken(1, name + " is not private");
                } else if (member instanceof BlockTree) {
                    // A default constructor is no block, so this is an initialiser.
                    broken(5, "an initialiser block in " + tree.getSimpleName());
                }
            }
            if (fields > 20) broken(11, tree.getSimpleName() + " has " + fields + " fields");
            Set<String> due = new TreeSet<>(FACE);
            due.addAll(CONSTANTS);
            if (top && !publicOnes.equals(due)) broken(1, "the face is " + publicOnes);
            return super.visitClass(tree, v);
        }

        @Override
        public Void visitMethod(MethodTree tree, Void v) {
            String outer = method;
            method = named(trees.getElement(getCurrentPath()));
            if (tree.getParameters().size() > 7) broken(11, method + " has more than seven parameters");
            long first = line(trees.getSourcePositions().getStartPosition(unit, tree));
            long last = line(Math.max(0, trees.getSourcePositions().getEndPosition(unit, tree)));
            if (last - first + 1 > 60) broken(11, method + " has " + (last - first + 1) + " lines");
            calls.computeIfAbsent(method, k -> new TreeSet<>());
            super.visitMethod(tree, v);
            method = outer;
            return null;
        }

        private void called(TreePath path) {
            Element e = trees.getElement(path);
            if (!(e instanceof ExecutableElement)) return;
            TypeElement owner = (TypeElement) e.getEnclosingElement();
            String name = named(e);
            boolean own = owner.getQualifiedName().toString().startsWith("FlyerRoom");
            if (!own && !LIBRARY.contains(name)) broken(4, name + " is not in the library");
            if (e.getKind() == ElementKind.CONSTRUCTOR && !own) return;
            if (method != null) calls.computeIfAbsent(method, k -> new TreeSet<>()).add(name);
        }

        @Override
        public Void visitMethodInvocation(MethodInvocationTree tree, Void v) {
            called(new TreePath(getCurrentPath(), tree.getMethodSelect()));
            return super.visitMethodInvocation(tree, v);
        }

        /** Of the library only functions are listed, no constants. */
        private void named(TreePath path) {
            Element e = trees.getElement(path);
            if (e == null || e.getKind() != ElementKind.FIELD || e.getSimpleName().contentEquals("length")) return;
            TypeElement owner = (TypeElement) e.getEnclosingElement();
            if (!owner.getQualifiedName().toString().startsWith("FlyerRoom")) broken(4, named(e) + " is not in the library");
        }

        @Override
        public Void visitMemberSelect(MemberSelectTree tree, Void v) {
            named(getCurrentPath());
            return super.visitMemberSelect(tree, v);
        }

        @Override
        public Void visitNewClass(NewClassTree tree, Void v) {
            called(getCurrentPath());
            if (tree.getClassBody() != null) broken(2, "an anonymous class");
            return super.visitNewClass(tree, v);
        }

        @Override
        public Void visitWhileLoop(WhileLoopTree tree, Void v) {
            broken(9, "a while loop, whose end can not be seen from its own lines");
            return super.visitWhileLoop(tree, v);
        }
    }

    /** How many calls stand open at most, those that come back to themselves counted once. */
    private static int depth(Map<String, Set<String>> calls, String from, Set<String> open, List<String> longest) {
        if (!open.add(from)) return 0;
        int most = 0;
        List<String> below = new ArrayList<>();
        for (String to : calls.getOrDefault(from, Set.of())) {
            // The reader of rules is a recursion, bounded by the brackets that may be open.
            if (to.startsWith("Rules.read")) continue;
            List<String> path = new ArrayList<>();
            int d = depth(calls, to, open, path);
            if (d <= most) continue;
            most = d;
            below = path;
        }
        open.remove(from);
        longest.add(from);
        longest.addAll(below);
        return most + 1;
    }

    public static void main(String[] args) throws Exception {
        JavaCompiler compiler = ToolProvider.getSystemJavaCompiler();
        try (StandardJavaFileManager files = compiler.getStandardFileManager(null, null, null)) {
            JavacTask task = (JavacTask) compiler.getTask(null, files, null, List.of("-proc:none"), null,
                files.getJavaFileObjects(Path.of(FILE)));
            CompilationUnitTree unit = task.parse().iterator().next();
            task.analyze();
            Reader reader = new Reader(Trees.instance(task), unit);
            reader.scan(unit, null);
            if (reader.classes > 12) broken(11, "there are " + reader.classes + " classes");
            for (String name : FACE) {
                List<String> longest = new ArrayList<>();
                int d = depth(reader.calls, "FlyerRoom." + name, new HashSet<>(), longest);
                if (d > 8) broken(11, "calls go " + d + " deep: " + longest);
            }
        }
        System.out.println(wrong == 0 ? "the rules that a tree shows are kept" : wrong + " rules are broken");
        if (wrong != 0) System.exit(1);
    }
}
