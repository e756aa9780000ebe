import com.sun.source.tree.AnnotationTree;
import com.sun.source.tree.ArrayAccessTree;
import com.sun.source.tree.AssertTree;
import com.sun.source.tree.AssignmentTree;
import com.sun.source.tree.BinaryTree;
import com.sun.source.tree.ClassTree;
import com.sun.source.tree.CompilationUnitTree;
import com.sun.source.tree.CompoundAssignmentTree;
import com.sun.source.tree.DoWhileLoopTree;
import com.sun.source.tree.EnhancedForLoopTree;
import com.sun.source.tree.ExpressionTree;
import com.sun.source.tree.ForLoopTree;
import com.sun.source.tree.ImportTree;
import com.sun.source.tree.InstanceOfTree;
import com.sun.source.tree.LambdaExpressionTree;
import com.sun.source.tree.LiteralTree;
import com.sun.source.tree.MemberReferenceTree;
import com.sun.source.tree.MethodInvocationTree;
import com.sun.source.tree.MethodTree;
import com.sun.source.tree.NewArrayTree;
import com.sun.source.tree.NewClassTree;
import com.sun.source.tree.SynchronizedTree;
import com.sun.source.tree.ThrowTree;
import com.sun.source.tree.Tree;
import com.sun.source.tree.TryTree;
import com.sun.source.tree.TypeCastTree;
import com.sun.source.tree.UnaryTree;
import com.sun.source.tree.VariableTree;
import com.sun.source.tree.WhileLoopTree;
import com.sun.source.util.JavacTask;
import com.sun.source.util.TreePath;
import com.sun.source.util.TreePathScanner;
import com.sun.source.util.Trees;
import java.io.IOException;
import java.nio.file.Files;
import java.nio.file.Path;
import java.util.HashMap;
import java.util.HashSet;
import java.util.LinkedHashMap;
import java.util.List;
import java.util.Map;
import java.util.Set;
import javax.lang.model.element.Element;
import javax.lang.model.element.ElementKind;
import javax.lang.model.element.ExecutableElement;
import javax.lang.model.element.Modifier;
import javax.lang.model.type.TypeMirror;
import javax.tools.JavaCompiler;
import javax.tools.StandardJavaFileManager;
import javax.tools.ToolProvider;

/**
 * What of the rules 2 to 13 of LANGUAGE.md can be seen in the class as javac reads it: what the class has no need of
 * (records, casts, texts that are made ..) is refused here, too, where a rule would let some of it in. Rule 1 is
 * FaceTests', rule 7 WildTests'; of a loop (rule 9) no more is asked than a condition that compares.
 *
 * With a file's name it tells of that file instead.
 */
public final class RulesTests {
    private static final Set<String> TYPES = Set.of(
            "int", "long", "short", "byte", "char", "boolean", "java.lang.String", "int[]", "byte[]", "LionSigns.Sheet[]");
    private static final Set<String> LIBRARY = Set.of(
            "java.lang.Object.Object()", "java.lang.String.indexOf(int)", "java.lang.Integer.bitCount(int)",
            "java.lang.Math.min(int,int)", "java.lang.Math.max(int,int)", "java.lang.Math.floorMod(int,int)",
            "java.lang.System.arraycopy(java.lang.Object,int,java.lang.Object,int,int)",
            "java.util.Arrays.fill(int[],int)");
    private static final int MOST_CLASSES = 12;
    private static final int MOST_FIELDS = 20;
    private static final int MOST_LINES = 60;
    private static final int MOST_PARAMETERS = 7;
    private static final int DEEPEST_CALLS = 8;
    private static int wrong = 0;

    private static void fault(int rule, String what) {
        wrong++;
        System.out.println("rule " + rule + ": " + what);
    }

    private static final class Reader extends TreePathScanner<Void, Void> {
        final Trees trees;
        final CompilationUnitTree unit;
        final Map<Element, Set<Element>> calls = new LinkedHashMap<>();
        int classes;

        Reader(Trees trees, CompilationUnitTree unit) {
            this.trees = trees;
            this.unit = unit;
        }

        Element elementOf(Tree tree) {
            return trees.getElement(new TreePath(getCurrentPath(), tree));
        }

        TypeMirror typeOf(Tree tree) {
            return trees.getTypeMirror(new TreePath(getCurrentPath(), tree));
        }

        long lineOf(long position) {
            return unit.getLineMap().getLineNumber(position);
        }

        String at(Tree tree) {
            return " in line " + lineOf(trees.getSourcePositions().getStartPosition(unit, tree));
        }

        void none(int rule, Tree tree) {
            fault(rule, tree.getKind() + at(tree));
        }

        boolean isOwn(Element element) {
            for (Element one = element; one != null; one = one.getEnclosingElement()) {
                if (one.toString().equals("LionSigns")) {
                    return true;
                }
            }
            return false;
        }

        /** The method or constructor that stands around; null in a field's initialiser. */
        MethodTree around() {
            for (TreePath path = getCurrentPath(); path != null; path = path.getParentPath()) {
                if (path.getLeaf() instanceof MethodTree) {
                    return (MethodTree) path.getLeaf();
                }
            }
            return null;
        }

        @Override public Void visitImport(ImportTree tree, Void none) {
            if (!tree.toString().trim().equals("import java.util.Arrays;")) {
                fault(4, tree + at(tree));
            }
            return super.visitImport(tree, none);
        }

        @Override public Void visitClass(ClassTree tree, Void none) {
            classes++;
            Tree parent = getCurrentPath().getParentPath().getLeaf();
            boolean nested = parent instanceof ClassTree;
            if (!nested && !(parent instanceof CompilationUnitTree)
                    || nested && !tree.getModifiers().getFlags().contains(Modifier.STATIC)
                    || tree.getKind() != Tree.Kind.CLASS) {
                fault(2, "class " + tree.getSimpleName() + at(tree));
            }
            int fields = 0;
            for (Tree member : tree.getMembers()) {
                if (member.getKind() == Tree.Kind.BLOCK) {
                    none(5, member);
                }
                if (member instanceof VariableTree
                        && !((VariableTree) member).getModifiers().getFlags().contains(Modifier.STATIC)) {
                    fields++;
                }
            }
            if (fields > MOST_FIELDS) {
                fault(11, fields + " fields of " + tree.getSimpleName());
            }
            return super.visitClass(tree, none);
        }

        @Override public Void visitMethod(MethodTree tree, Void none) {
            long first = lineOf(trees.getSourcePositions().getStartPosition(unit, tree));
            long last = lineOf(Math.max(0, trees.getSourcePositions().getEndPosition(unit, tree)));
            if (last - first >= MOST_LINES) {
                fault(11, tree.getName() + " has " + (last - first + 1) + " lines");
            }
            if (tree.getParameters().size() > MOST_PARAMETERS) {
                fault(11, tree.getName() + " has " + tree.getParameters().size() + " parameters");
            }
            if (Set.of("equals", "hashCode", "toString").contains(tree.getName().toString())) {
                none(6, tree);
            }
            if (!tree.getTypeParameters().isEmpty() || !tree.getThrows().isEmpty()) {
                fault(3, tree.getName() + at(tree));
            }
            calls.computeIfAbsent(trees.getElement(getCurrentPath()), key -> new HashSet<>());
            return super.visitMethod(tree, none);
        }

        @Override public Void visitVariable(VariableTree tree, Void none) {
            Element element = trees.getElement(getCurrentPath());
            String type = element.asType().toString();
            if (!TYPES.contains(type) && !type.matches("LionSigns\\.\\w+")) {
                fault(3, type + " " + tree.getName() + at(tree));
            }
            if (element.getKind() == ElementKind.FIELD && element.getModifiers().contains(Modifier.STATIC)) {
                staticField(tree, element, type);
            }
            return super.visitVariable(tree, none);
        }

        private void staticField(VariableTree tree, Element field, String type) {
            boolean isConstant = ((javax.lang.model.element.VariableElement) field).getConstantValue() != null;
            boolean isRow = type.equals("int[]") && tree.getInitializer() != null
                    && tree.getInitializer().getKind() == Tree.Kind.NEW_ARRAY
                    && ((NewArrayTree) tree.getInitializer()).getInitializers() != null;
            if (!field.getModifiers().contains(Modifier.FINAL) || !isConstant && !isRow) {
                fault(5, "static " + tree.getName() + at(tree));
            }
        }

        private void written(ExpressionTree target) {
            if (target instanceof ArrayAccessTree) {
                Element row = elementOf(((ArrayAccessTree) target).getExpression());
                if (row != null && row.getModifiers().contains(Modifier.STATIC)) {
                    fault(5, "a static row is changed" + at(target));
                }
            }
        }

        @Override public Void visitAssignment(AssignmentTree tree, Void none) {
            written(tree.getVariable());
            return super.visitAssignment(tree, none);
        }

        @Override public Void visitCompoundAssignment(CompoundAssignmentTree tree, Void none) {
            written(tree.getVariable());
            if (!typeOf(tree.getVariable()).getKind().isPrimitive()) {
                fault(10, tree + at(tree));
            }
            return super.visitCompoundAssignment(tree, none);
        }

        @Override public Void visitUnary(UnaryTree tree, Void none) {
            switch (tree.getKind()) {
                case POSTFIX_INCREMENT: case POSTFIX_DECREMENT: case PREFIX_INCREMENT: case PREFIX_DECREMENT:
                    written(tree.getExpression());
                    break;
                default:
                    break;
            }
            return super.visitUnary(tree, none);
        }

        @Override public Void visitBinary(BinaryTree tree, Void none) {
            for (Tree side : List.of(tree.getLeftOperand(), tree.getRightOperand())) {
                if (!typeOf(side).getKind().isPrimitive()) {
                    fault(tree.getKind() == Tree.Kind.PLUS ? 10 : 6, tree + at(tree));
                }
            }
            return super.visitBinary(tree, none);
        }

        @Override public Void visitMethodInvocation(MethodInvocationTree tree, Void none) {
            called((ExecutableElement) elementOf(tree.getMethodSelect()), tree);
            return super.visitMethodInvocation(tree, none);
        }

        private void called(ExecutableElement method, Tree tree) {
            if (!isOwn(method)) {
                String name = method.getEnclosingElement() + "."
                        + method.toString().replace("<init>", method.getEnclosingElement().getSimpleName());
                if (!LIBRARY.contains(name)) {
                    fault(4, name + at(tree));
                }
            } else if (around() != null) {
                calls.computeIfAbsent(trees.getElement(trees.getPath(unit, around())), key -> new HashSet<>()).add(method);
            }
        }

        @Override public Void visitNewClass(NewClassTree tree, Void none) {
            made(tree);
            called((ExecutableElement) trees.getElement(getCurrentPath()), tree);
            return super.visitNewClass(tree, none);
        }

        @Override public Void visitNewArray(NewArrayTree tree, Void none) {
            made(tree);
            return super.visitNewArray(tree, none);
        }

        /** Objects and rows are made with the object alone: so a run of calls needs no room. */
        private void made(Tree tree) {
            if (around() != null && around().getReturnType() != null) {
                fault(12, around().getName() + " makes " + tree + at(tree));
            }
        }

        @Override public Void visitTypeCast(TypeCastTree tree, Void none) {
            if (!typeOf(tree.getType()).getKind().isPrimitive()) {
                none(6, tree);
            }
            return super.visitTypeCast(tree, none);
        }

        private void ends(Tree loop, ExpressionTree condition) {
            if (condition == null || condition.toString().replaceAll("[()]", "").equals("true")
                    || !condition.toString().matches(".*[<>].*")) {
                fault(9, "no end is seen from the loop's own lines" + at(loop));
            }
        }

        @Override public Void visitForLoop(ForLoopTree tree, Void none) {
            ends(tree, tree.getCondition());
            return super.visitForLoop(tree, none);
        }

        @Override public Void visitWhileLoop(WhileLoopTree tree, Void none) {
            ends(tree, tree.getCondition());
            return super.visitWhileLoop(tree, none);
        }

        @Override public Void visitDoWhileLoop(DoWhileLoopTree tree, Void none) {
            ends(tree, tree.getCondition());
            return super.visitDoWhileLoop(tree, none);
        }

        @Override public Void visitEnhancedForLoop(EnhancedForLoopTree tree, Void none) {
            if (typeOf(tree.getExpression()).getKind() != javax.lang.model.type.TypeKind.ARRAY) {
                none(12, tree);
            }
            return super.visitEnhancedForLoop(tree, none);
        }

        @Override public Void visitLiteral(LiteralTree tree, Void none) {
            if (tree.getValue() instanceof Double || tree.getValue() instanceof Float) {
                none(3, tree);
            }
            return super.visitLiteral(tree, none);
        }

        @Override public Void visitLambdaExpression(LambdaExpressionTree tree, Void none) {
            none(2, tree);
            return super.visitLambdaExpression(tree, none);
        }

        @Override public Void visitMemberReference(MemberReferenceTree tree, Void none) {
            none(2, tree);
            return super.visitMemberReference(tree, none);
        }

        @Override public Void visitAnnotation(AnnotationTree tree, Void none) {
            none(4, tree);
            return super.visitAnnotation(tree, none);
        }

        @Override public Void visitInstanceOf(InstanceOfTree tree, Void none) {
            none(6, tree);
            return super.visitInstanceOf(tree, none);
        }

        @Override public Void visitThrow(ThrowTree tree, Void none) {
            none(6, tree);
            return super.visitThrow(tree, none);
        }

        @Override public Void visitTry(TryTree tree, Void none) {
            none(6, tree);
            return super.visitTry(tree, none);
        }

        @Override public Void visitSynchronized(SynchronizedTree tree, Void none) {
            none(6, tree);
            return super.visitSynchronized(tree, none);
        }

        @Override public Void visitAssert(AssertTree tree, Void none) {
            none(6, tree);
            return super.visitAssert(tree, none);
        }

        Set<Element> reachedFrom(Element method) {
            Set<Element> reached = new HashSet<>();
            reach(method, reached);
            return reached;
        }

        private void reach(Element method, Set<Element> reached) {
            for (Element next : calls.getOrDefault(method, Set.of())) {
                if (reached.add(next)) {
                    reach(next, reached);
                }
            }
        }

        /** Rule 8: what calls itself is private. Rule 11: how deep calls stand, those that call one another as one. */
        void depths() {
            Map<Element, Set<Element>> below = new HashMap<>();
            for (Element method : calls.keySet()) {
                below.put(method, reachedFrom(method));
            }
            Map<Element, Integer> depths = new HashMap<>();
            for (Element method : calls.keySet()) {
                if (below.get(method).contains(method) && !method.getModifiers().contains(Modifier.PRIVATE)) {
                    fault(8, method + " calls itself and isn't private");
                }
                int depth = depthOf(method, below, depths);
                if (depth > DEEPEST_CALLS) {
                    fault(11, method + " goes " + depth + " calls deep");
                }
            }
        }

        private int depthOf(Element method, Map<Element, Set<Element>> below, Map<Element, Integer> depths) {
            Integer known = depths.get(method);
            if (known != null) {
                return known;
            }
            int deepest = 0;
            for (Element next : below.getOrDefault(method, Set.of())) {
                boolean apart = !below.getOrDefault(next, Set.of()).contains(method);
                if (apart) {
                    deepest = Math.max(deepest, depthOf(next, below, depths));
                }
            }
            depths.put(method, deepest + 1);
            return deepest + 1;
        }
    }

    private static void read(Path file) throws IOException {
        JavaCompiler compiler = ToolProvider.getSystemJavaCompiler();
        try (StandardJavaFileManager files = compiler.getStandardFileManager(null, null, null)) {
            JavacTask task = (JavacTask) compiler.getTask(null, files, null, List.of("-proc:none"), null,
                    files.getJavaFileObjects(file.toFile()));
            Iterable<? extends CompilationUnitTree> units = task.parse();
            task.analyze();
            for (CompilationUnitTree unit : units) {
                Reader reader = new Reader(Trees.instance(task), unit);
                reader.scan(unit, null);
                reader.depths();
                if (unit.getPackageName() != null) {
                    fault(1, "a package line");
                }
                if (reader.classes > MOST_CLASSES || reader.classes == 0) {
                    fault(11, reader.classes + " classes");
                }
            }
        }
    }

    /** Rule 4: signs 1 to 127 alone. */
    private static void signs(Path file) throws IOException {
        byte[] bytes = Files.readAllBytes(file);
        for (int i = 0; i < bytes.length; i++) {
            if (bytes[i] <= 0) {
                fault(4, "byte " + i + " of the file is " + bytes[i]);
            }
        }
    }

    public static void main(String[] args) throws IOException {
        Path file = Path.of(args.length > 0 ? args[0] : "src/main/java/LionSigns.java");
        signs(file);
        read(file);
        System.out.println(wrong == 0 ? "the rules of the language hold" : wrong + " are not as the rules of the language");
        if (wrong != 0) {
            System.exit(1);
        }
    }
}
