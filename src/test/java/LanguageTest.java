import com.sun.source.tree.*;
import com.sun.source.util.JavacTask;
import com.sun.source.util.TreePath;
import com.sun.source.util.TreePathScanner;
import com.sun.source.util.Trees;
import java.io.File;
import java.util.ArrayDeque;
import java.util.ArrayList;
import java.util.Deque;
import java.util.HashSet;
import java.util.LinkedHashMap;
import java.util.LinkedHashSet;
import java.util.List;
import java.util.Map;
import java.util.Set;
import javax.lang.model.element.ExecutableElement;
import javax.lang.model.element.Modifier;
import javax.lang.model.type.TypeKind;
import javax.lang.model.type.TypeMirror;
import javax.tools.JavaCompiler;
import javax.tools.JavaFileObject;
import javax.tools.StandardJavaFileManager;
import javax.tools.ToolProvider;

/** Reads the class's file by the compiler's own tree and tells what the rules of LANGUAGE.md do not leave. */
public final class LanguageTest {
    private static final String FILE = "src/main/java/StonesOver.java";
    private static final Set<String> FACE = Set.of("spitter", "spitters", "mend", "of", "feed", "law", "tries", "angle",
            "order", "risk", "risks", "practice", "match", "winner", "last", "place", "handicap", "steps", "whose",
            "judge", "who", "ahead", "drawn", "spit", "rest", "led", "image", "back", "undo", "redo", "body", "act",
            "trace", "keep", "row", "put", "element", "shift", "taken", "count");

    private static int classes = 0;
    private static final Map<Object, Set<Object>> calls = new LinkedHashMap<>();

    /** The longest chain of calls from a method on, where each method of a recursion comes once. */
    private static int deepest(Object method, List<Object> open) {
        int deep = 0;
        open.add(method);
        for (Object called : calls.getOrDefault(method, Set.of())) {
            if (!open.contains(called)) {
                deep = Math.max(deep, deepest(called, open));
            }
        }
        open.remove(open.size() - 1);
        return deep + 1;
    }

    public static void main(String[] args) throws Exception {
        JavaCompiler compiler = ToolProvider.getSystemJavaCompiler();
        try (StandardJavaFileManager files = compiler.getStandardFileManager(null, null, null)) {
            Iterable<? extends JavaFileObject> units = files.getJavaFileObjects(new File(FILE));
            JavacTask task = (JavacTask) compiler.getTask(null, files, null, List.of("-proc:none"), null, units);
            Iterable<? extends CompilationUnitTree> trees = task.parse();
            task.analyze();
            for (CompilationUnitTree unit : trees) {
                new Rules(unit, Trees.instance(task)).scan(unit, null);
            }
        }
        Due.is("classes are some twelve at most", classes <= 12 ? 1 : 0, 1);
        for (Object method : calls.keySet()) {
            int deep = deepest(method, new ArrayList<>());
            Due.is("calls open below " + method + " (" + deep + ") are eight at most", deep <= 8 ? 1 : 0, 1);
        }
        Due.close("LanguageTest");
    }

    private static final class Rules extends TreePathScanner<Void, Void> {
        private final CompilationUnitTree unit;
        private final Trees trees;
        private final Deque<Integer> fields = new ArrayDeque<>();

        Rules(CompilationUnitTree unit, Trees trees) {
            this.unit = unit;
            this.trees = trees;
        }

        private long line(Tree tree) {
            return unit.getLineMap().getLineNumber(trees.getSourcePositions().getStartPosition(unit, tree));
        }

        private long lastLine(Tree tree) {
            return unit.getLineMap().getLineNumber(trees.getSourcePositions().getEndPosition(unit, tree));
        }

        private void rule(String what, Tree tree, boolean kept) {
            Due.is("line " + line(tree) + ", " + what, kept ? 1 : 0, 1);
        }

        private boolean isOf(Tree tree, String name) {
            TypeMirror type = trees.getTypeMirror(new TreePath(getCurrentPath(), tree));
            return type != null && type.toString().equals(name);
        }

        @Override
        public Void visitCompilationUnit(CompilationUnitTree tree, Void v) {
            Due.is("no package", tree.getPackageName() == null ? 1 : 0, 1);
            Due.is("no import", tree.getImports().size(), 0);
            Due.is("one class", tree.getTypeDecls().size(), 1);
            return super.visitCompilationUnit(tree, v);
        }

        @Override
        public Void visitClass(ClassTree tree, Void v) {
            classes++;
            Set<Modifier> modifiers = tree.getModifiers().getFlags();
            boolean isOuter = tree.getSimpleName().contentEquals("StonesOver");
            rule("classes inside are static and not public", tree,
                    isOuter || modifiers.contains(Modifier.STATIC) && !modifiers.contains(Modifier.PUBLIC));
            rule("no local or anonymous class", tree, tree.getSimpleName().length() > 0);
            fields.push(0);
            super.visitClass(tree, v);
            rule("some twenty fields", tree, fields.pop() <= 20);
            return null;
        }

        @Override
        public Void visitMethod(MethodTree tree, Void v) {
            Set<Modifier> modifiers = tree.getModifiers().getFlags();
            boolean isOuter = ((ClassTree) getCurrentPath().getParentPath().getLeaf()).getSimpleName().contentEquals("StonesOver");
            String name = tree.getName().toString();
            boolean isFace = FACE.contains(name) || name.equals("<init>");
            rule("the face alone is public: " + name, tree,
                    !isOuter || modifiers.contains(Modifier.PUBLIC) == isFace && (isFace || modifiers.contains(Modifier.PRIVATE)));
            rule("no other method bears a name of the face: " + name, tree, isOuter || !FACE.contains(name));
            rule("no equals, hashCode, toString", tree, !Set.of("equals", "hashCode", "toString").contains(name));
            rule("seven parameters", tree, tree.getParameters().size() <= 7);
            rule("some sixty lines", tree, lastLine(tree) - line(tree) < 60);
            rule("no throws, no synchronized", tree,
                    tree.getThrows().isEmpty() && !modifiers.contains(Modifier.SYNCHRONIZED));
            return super.visitMethod(tree, v);
        }

        @Override
        public Void visitVariable(VariableTree tree, Void v) {
            boolean isField = getCurrentPath().getParentPath().getLeaf() instanceof ClassTree;
            Set<Modifier> modifiers = tree.getModifiers().getFlags();
            if (isField && modifiers.contains(Modifier.STATIC)) {
                rule("static fields are final constants", tree, modifiers.contains(Modifier.FINAL)
                        && Set.of("int", "long", "boolean", "char", "String", "int[]", "long[]", "char[]", "byte[]")
                                .contains(tree.getType().toString()));
            } else if (isField) {
                fields.push(fields.pop() + 1);
                rule("fields are private", tree, modifiers.contains(Modifier.PRIVATE));
            }
            return super.visitVariable(tree, v);
        }

        @Override
        public Void visitBlock(BlockTree tree, Void v) {
            rule("no initialiser block", tree, !(getCurrentPath().getParentPath().getLeaf() instanceof ClassTree));
            return super.visitBlock(tree, v);
        }

        @Override
        public Void visitBinary(BinaryTree tree, Void v) {
            rule("no joining of texts by +", tree, !isOf(tree, "java.lang.String"));
            return super.visitBinary(tree, v);
        }

        private void noteCall(Tree called) {
            for (TreePath at = getCurrentPath(); at != null; at = at.getParentPath()) {
                if (at.getLeaf() instanceof MethodTree) {
                    Object to = trees.getElement(new TreePath(getCurrentPath(), called));
                    calls.computeIfAbsent(name(trees.getElement(at)), k -> new LinkedHashSet<>());
                    if (to instanceof ExecutableElement && name(to).startsWith("StonesOver")) {
                        calls.get(name(trees.getElement(at))).add(name(to));
                    }
                    return;
                }
            }
        }

        private static String name(Object method) {
            return ((ExecutableElement) method).getEnclosingElement() + "." + method;
        }

        @Override
        public Void visitMethodInvocation(MethodInvocationTree tree, Void v) {
            noteCall(tree.getMethodSelect());
            if (tree.getMethodSelect() instanceof MemberSelectTree) {
                MemberSelectTree select = (MemberSelectTree) tree.getMethodSelect();
                String on = select.getExpression().toString();
                if (Set.of("Math", "Integer", "Long").contains(on)) {
                    rule("no Exact, no doubles", tree, Set.of("max", "min", "abs", "bitCount", "floorMod", "floorDiv")
                            .contains(select.getIdentifier().toString()));
                }
                rule("System.arraycopy alone", tree,
                        !on.equals("System") || select.getIdentifier().contentEquals("arraycopy"));
            }
            return super.visitMethodInvocation(tree, v);
        }

        @Override
        public Void visitNewArray(NewArrayTree tree, Void v) {
            rule("arrays are made with their object", tree, isMadeWithItsObject());
            return super.visitNewArray(tree, v);
        }

        @Override
        public Void visitNewClass(NewClassTree tree, Void v) {
            rule("objects are made with their object", tree, isMadeWithItsObject());
            return super.visitNewClass(tree, v);
        }

        /** What a call makes counts for the room of all calls: so no call makes anything. */
        private boolean isMadeWithItsObject() {
            for (Tree around : getCurrentPath()) {
                if (around instanceof MethodTree) {
                    return ((MethodTree) around).getName().contentEquals("<init>");
                }
            }
            return true;
        }

        @Override
        public Void visitIdentifier(IdentifierTree tree, Void v) {
            TypeMirror type = trees.getTypeMirror(getCurrentPath());
            if (type != null && type.getKind() == TypeKind.DECLARED) {
                rule("only classes of its own: " + type, tree, type.toString().startsWith("StonesOver")
                        || Set.of("java.lang.Math", "java.lang.Integer", "java.lang.Long", "java.lang.System")
                                .contains(type.toString()));
            }
            return super.visitIdentifier(tree, v);
        }

        @Override
        public Void scan(Tree tree, Void v) {
            if (tree != null) {
                rule("nothing of kind " + tree.getKind(), tree, !REFUSED.contains(tree.getKind()));
            }
            return super.scan(tree, v);
        }

        private static final Set<Tree.Kind> REFUSED = new HashSet<>(List.of(Tree.Kind.THROW, Tree.Kind.TRY, Tree.Kind.CATCH,
                Tree.Kind.SYNCHRONIZED, Tree.Kind.ASSERT, Tree.Kind.LAMBDA_EXPRESSION, Tree.Kind.MEMBER_REFERENCE,
                Tree.Kind.FLOAT_LITERAL, Tree.Kind.DOUBLE_LITERAL, Tree.Kind.STRING_LITERAL, Tree.Kind.SWITCH_EXPRESSION,
                Tree.Kind.ANNOTATION, Tree.Kind.UNION_TYPE));
    }
}
