import com.sun.source.tree.*;
import com.sun.source.util.*;
import java.nio.file.Path;
import java.util.*;
import javax.lang.model.element.*;
import javax.lang.model.type.TypeKind;
import javax.tools.*;

/** Looks at PeaceRing.java itself for what ../shared/LANGUAGE.md forbids; each complaint names the rule. */
public final class LanguageTest {
    private static final Set<String> LIBRARY = Set.of("java.util.Arrays.fill", "java.lang.System.arraycopy", "java.lang.Math.abs",
        "java.lang.Math.max", "java.lang.Math.min", "java.lang.Math.floorMod", "java.lang.Integer.bitCount",
        "java.lang.String.length", "java.lang.String.charAt", "PeaceRing.Word.values");
    private static final Set<String> FACE = Set.of("hours", "ground", "between", "person", "move", "personOf", "stone", "within",
        "degree", "feed", "read", "strike", "version", "rule", "deed", "counts", "line", "safe", "why", "cost", "seek", "swear",
        "leave", "dwell", "port", "sails", "take", "taking", "post", "sees", "aim", "run", "row", "alterRow", "dropRow", "judge",
        "gap", "watch", "bell", "heard", "sight", "who", "narrow", "both", "sheet", "put", "item", "comes", "shelf", "taken",
        "deal", "trace", "many", "keep", "again");
    private static final Set<Tree.Kind> FORBIDDEN = EnumSet.of(Tree.Kind.THROW, Tree.Kind.TRY, Tree.Kind.CATCH,
        Tree.Kind.SYNCHRONIZED, Tree.Kind.ASSERT, Tree.Kind.LAMBDA_EXPRESSION, Tree.Kind.MEMBER_REFERENCE,
        Tree.Kind.SWITCH_EXPRESSION, Tree.Kind.ANNOTATION);

    private static final List<String> complaints = new ArrayList<>();
    private static final Map<Element, Set<Element>> calls = new LinkedHashMap<>();

    public static void main(String[] args) throws Exception {
        Path source = Path.of(args.length > 0 ? args[0] : "src/main/java/PeaceRing.java");
        JavaCompiler compiler = ToolProvider.getSystemJavaCompiler();
        try (StandardJavaFileManager files = compiler.getStandardFileManager(null, null, null)) {
            JavacTask task = (JavacTask) compiler.getTask(null, files, null, List.of("-proc:none"), null,
                files.getJavaFileObjects(source));
            CompilationUnitTree unit = task.parse().iterator().next();
            task.analyze();
            new Look(unit, Trees.instance(task)).scan(new TreePath(unit), null);
        }
        int depth = 0;
        for (Element method : calls.keySet()) {
            int from = depth(method, new ArrayDeque<>());
            if (from > 8) complaints.add("rule 11: calls from " + method + " go " + from + " deep");
            depth = Math.max(depth, from);
        }
        for (String complaint : complaints) System.out.println(complaint);
        System.out.println("calls go " + depth + " deep; " + complaints.size() + " complaints");
        if (!complaints.isEmpty()) System.exit(1);
    }

    /** Methods that call one another round about count once. */
    private static int depth(Element method, Deque<Element> open) {
        if (open.contains(method)) return 0;
        open.push(method);
        int deepest = 0;
        for (Element called : calls.getOrDefault(method, Set.of())) deepest = Math.max(deepest, depth(called, open));
        open.pop();
        return (isInCycle(method) && !open.isEmpty() && isSameCycle(method, open.peek()) ? 0 : 1) + deepest;
    }

    private static boolean isInCycle(Element method) {
        return reaches(method, method);
    }

    private static boolean isSameCycle(Element a, Element b) {
        return reaches(a, b) && reaches(b, a);
    }

    private static boolean reaches(Element from, Element to) {
        Set<Element> seen = new HashSet<>();
        Deque<Element> left = new ArrayDeque<>(calls.getOrDefault(from, Set.of()));
        while (!left.isEmpty()) {
            Element next = left.pop();
            if (next.equals(to)) return true;
            if (seen.add(next)) left.addAll(calls.getOrDefault(next, Set.of()));
        }
        return false;
    }

    private static final class Look extends TreePathScanner<Void, Void> {
        private final CompilationUnitTree unit;
        private final Trees trees;
        private int classes;
        private Element method;

        Look(CompilationUnitTree unit, Trees trees) {
            this.unit = unit;
            this.trees = trees;
        }

        private void complain(Tree tree, String what) {
            long at = trees.getSourcePositions().getStartPosition(unit, tree);
            complaints.add("line " + unit.getLineMap().getLineNumber(at) + ": " + what);
        }

        @Override
        public Void scan(Tree tree, Void nothing) {
            if (tree != null && FORBIDDEN.contains(tree.getKind())) complain(tree, "rule 2, 6: " + tree.getKind());
            return super.scan(tree, nothing);
        }

        @Override
        public Void visitImport(ImportTree tree, Void nothing) {
            String name = tree.getQualifiedIdentifier().toString();
            if (!Set.of("java.util.Arrays", "java.util.ArrayList", "java.util.List").contains(name)) complain(tree, "rule 4: " + name);
            return null;
        }

        @Override
        public Void visitClass(ClassTree tree, Void nothing) {
            Set<Modifier> flags = tree.getModifiers().getFlags();
            boolean isOuter = tree.getSimpleName().contentEquals("PeaceRing");
            if (++classes > 12) complain(tree, "rule 11: the thirteenth class");
            if (isOuter && !flags.containsAll(Set.of(Modifier.PUBLIC, Modifier.FINAL))) complain(tree, "rule 1: not public, final");
            if (!isOuter && tree.getKind() == Tree.Kind.CLASS && !flags.contains(Modifier.STATIC)) complain(tree, "rule 2: inner");
            if (getCurrentPath().getParentPath().getLeaf().getKind() == Tree.Kind.BLOCK) complain(tree, "rule 2: local class");
            int fields = 0;
            for (Tree member : tree.getMembers()) {
                if (member.getKind() == Tree.Kind.BLOCK) complain(member, "rule 5: initialiser block");
                if (isOuter) lookAtMember(member);
                if (member instanceof VariableTree v && !v.getModifiers().getFlags().contains(Modifier.STATIC)) fields++;
            }
            if (fields > 20) complain(tree, "rule 11: " + fields + " fields");
            return super.visitClass(tree, nothing);
        }

        private void lookAtMember(Tree member) {
            if (member instanceof MethodTree m) {
                boolean isFace = FACE.contains(m.getName().toString()) || m.getReturnType() == null;
                Modifier due = isFace ? Modifier.PUBLIC : Modifier.PRIVATE;
                if (!m.getModifiers().getFlags().contains(due)) complain(m, "rule 1: " + m.getName() + " isn't " + due);
            }
            if (member instanceof VariableTree v) {
                boolean isFace = Set.of("BAD", "FULL", "NONE", "STATE").contains(v.getName().toString());
                Modifier due = isFace ? Modifier.PUBLIC : Modifier.PRIVATE;
                if (!v.getModifiers().getFlags().contains(due)) complain(v, "rule 1: " + v.getName() + " isn't " + due);
            }
        }

        @Override
        public Void visitVariable(VariableTree tree, Void nothing) {
            Element element = trees.getElement(getCurrentPath());
            if (element != null && element.getKind() == ElementKind.FIELD && element.getModifiers().contains(Modifier.STATIC)) {
                String type = element.asType().toString();
                boolean isConstant = Set.of("int", "long", "boolean", "char", "java.lang.String").contains(type)
                    && ((VariableElement) element).getConstantValue() != null;
                boolean isRow = Set.of("int[]", "long[]", "char[]", "byte[]").contains(type)
                    && tree.getInitializer() instanceof NewArrayTree row && row.getInitializers() != null;
                boolean isFinal = element.getModifiers().contains(Modifier.FINAL);
                if (!isFinal || !isConstant && !isRow) complain(tree, "rule 5: static " + tree.getName());
            }
            return super.visitVariable(tree, nothing);
        }

        @Override
        public Void visitMethod(MethodTree tree, Void nothing) {
            method = trees.getElement(getCurrentPath());
            calls.putIfAbsent(method, new LinkedHashSet<>());
            if (tree.getParameters().size() > 7) complain(tree, "rule 11: more than seven parameters");
            long from = unit.getLineMap().getLineNumber(trees.getSourcePositions().getStartPosition(unit, tree));
            long to = from;
            long end = trees.getSourcePositions().getEndPosition(unit, tree);
            if (end >= 0) to = unit.getLineMap().getLineNumber(end);
            if (to - from + 1 > 60) complain(tree, "rule 11: " + (to - from + 1) + " lines");
            boolean isFace = method.getEnclosingElement().getSimpleName().contentEquals("PeaceRing");
            if (!isFace && FACE.contains(tree.getName().toString())) complain(tree, "rule 1: a method bears the name of a public one");
            return super.visitMethod(tree, nothing);
        }

        @Override
        public Void visitMethodInvocation(MethodInvocationTree tree, Void nothing) {
            Element called = trees.getElement(new TreePath(getCurrentPath(), tree.getMethodSelect()));
            if (called == null || called.getKind() == ElementKind.CONSTRUCTOR) return super.visitMethodInvocation(tree, nothing);
            String owner = ((TypeElement) called.getEnclosingElement()).getQualifiedName().toString();
            boolean isOwn = owner.startsWith("PeaceRing") && !called.getSimpleName().contentEquals("values");
            if (method != null) calls.computeIfAbsent(method, m -> new LinkedHashSet<>()).add(called);
            if (!isOwn && !LIBRARY.contains(owner + "." + called.getSimpleName())) {
                complain(tree, "rule 4: " + owner + "." + called.getSimpleName());
            }
            return super.visitMethodInvocation(tree, nothing);
        }

        @Override
        public Void visitBinary(BinaryTree tree, Void nothing) {
            var type = trees.getTypeMirror(getCurrentPath());
            if (type != null && type.getKind() == TypeKind.DECLARED && type.toString().equals("java.lang.String")) {
                complain(tree, "rule 10: texts joined by +");
            }
            return super.visitBinary(tree, nothing);
        }
    }
}
