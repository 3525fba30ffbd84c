import com.sun.source.tree.AssignmentTree;
import com.sun.source.tree.BinaryTree;
import com.sun.source.tree.ClassTree;
import com.sun.source.tree.CompilationUnitTree;
import com.sun.source.tree.CompoundAssignmentTree;
import com.sun.source.tree.EnhancedForLoopTree;
import com.sun.source.tree.ExpressionTree;
import com.sun.source.tree.ForLoopTree;
import com.sun.source.tree.IdentifierTree;
import com.sun.source.tree.ImportTree;
import com.sun.source.tree.MethodInvocationTree;
import com.sun.source.tree.MethodTree;
import com.sun.source.tree.NewClassTree;
import com.sun.source.tree.Tree;
import com.sun.source.tree.Tree.Kind;
import com.sun.source.tree.UnaryTree;
import com.sun.source.tree.VariableTree;
import com.sun.source.util.JavacTask;
import com.sun.source.util.SourcePositions;
import com.sun.source.util.TreePathScanner;
import com.sun.source.util.Trees;
import java.io.IOException;
import java.nio.file.Path;
import java.util.EnumSet;
import java.util.HashSet;
import java.util.LinkedHashMap;
import java.util.Map;
import java.util.Set;
import java.util.TreeSet;
import javax.lang.model.element.Element;
import javax.lang.model.element.ElementKind;
import javax.lang.model.element.Modifier;
import javax.lang.model.element.VariableElement;
import javax.lang.model.type.ArrayType;
import javax.lang.model.type.TypeKind;
import javax.lang.model.type.TypeMirror;
import javax.tools.JavaCompiler;
import javax.tools.StandardJavaFileManager;
import javax.tools.ToolProvider;

/** The rules of ../shared/LANGUAGE.md, by the tree that javac makes of the class. */
public final class LanguageTest {
    private static final Check c = new Check();
    private static final Path FILE = Path.of("src/main/java/FeltCold.java");

    private static final Set<Kind> FORBIDDEN = EnumSet.of(Kind.LAMBDA_EXPRESSION, Kind.MEMBER_REFERENCE, Kind.THROW,
        Kind.TRY, Kind.CATCH, Kind.SYNCHRONIZED, Kind.ASSERT, Kind.PACKAGE, Kind.ANNOTATION, Kind.ENHANCED_FOR_LOOP,
        Kind.WHILE_LOOP, Kind.DO_WHILE_LOOP, Kind.INSTANCE_OF, Kind.SWITCH_EXPRESSION, Kind.STRING_LITERAL);
    /** What the class uses of the library; each stands in rule 4. */
    private static final Set<String> LIBRARY = Set.of("java.lang.Integer.bitCount", "java.lang.Math.max",
        "java.lang.Math.min", "java.lang.Math.abs", "java.lang.System.arraycopy", "java.util.Arrays.fill");
    private static final int PARAMETERS = 7, LINES = 60, DEPTH = 8, CLASSES = 12, FIELDS = 20;

    /** Whom each method calls, the library's functions among them. */
    private static final Map<Element, Set<Element>> calls = new LinkedHashMap<>();
    private static final Set<String> recursive = new TreeSet<>();

    private LanguageTest() {
    }

    public static void main(String[] args) throws IOException {
        JavaCompiler compiler = ToolProvider.getSystemJavaCompiler();
        try (StandardJavaFileManager files = compiler.getStandardFileManager(null, null, null)) {
            JavacTask task =
                (JavacTask) compiler.getTask(null, files, null, null, null, files.getJavaFileObjects(FILE));
            CompilationUnitTree unit = task.parse().iterator().next();
            task.analyze();
            Rules rules = new Rules(unit, Trees.instance(task));
            rules.scan(unit, null);
            rules.end();
        }
        int deepest = 0;
        for (Element method : calls.keySet()) {
            int depth = depth(method, new HashSet<>());
            deepest = Math.max(deepest, depth);
            within("rule 11: calls that stand open in " + method, depth, DEPTH);
        }
        c.due("the calls were found", deepest > 3 ? 1 : 0, 1);
        c.due("rule 8: what calls itself, " + recursive, recursive.size(), 1);
        c.end();
    }

    private static void within(String what, int number, int most) {
        c.due(what + " (" + number + " of " + most + ")", number <= most ? 1 : 0, 1);
    }

    /** How many calls stand open at most, a method that calls itself taken once. */
    private static int depth(Element method, Set<Element> open) {
        if (!open.add(method)) {
            recursive.add(method.toString());
            return 0;
        }
        int below = 0;
        for (Element called : calls.getOrDefault(method, Set.of())) {
            below = Math.max(below, depth(called, open));
        }
        open.remove(method);
        return below + 1;
    }

    private static final class Rules extends TreePathScanner<Void, Void> {
        private final CompilationUnitTree unit;
        private final Trees trees;
        private final SourcePositions positions;
        private Element inside;
        private Set<String> compared = new HashSet<>();
        private Set<String> divisors = new HashSet<>();
        private int classes;

        Rules(CompilationUnitTree unit, Trees trees) {
            this.unit = unit;
            this.trees = trees;
            this.positions = trees.getSourcePositions();
        }

        void end() {
            within("rule 11: classes", classes, CLASSES);
            c.due("methods were found", calls.size() > 100 ? 1 : 0, 1);
        }

        private long line(long position) {
            return unit.getLineMap().getLineNumber(position);
        }

        private String where(Tree tree) {
            return "line " + line(positions.getStartPosition(unit, tree)) + ", " + tree.getKind() + ": ";
        }

        private Element elementOf(Tree tree) {
            return trees.getElement(trees.getPath(unit, tree));
        }

        @Override
        public Void scan(Tree tree, Void nothing) {
            boolean overNumbers = tree != null && tree.getKind() == Kind.ENHANCED_FOR_LOOP && isOverArray(tree);
            if (tree != null && !overNumbers && FORBIDDEN.contains(tree.getKind())) {
                c.due(where(tree) + "is ruled out", 1, 0);
            }
            return super.scan(tree, nothing);
        }

        private boolean isOverArray(Tree tree) {
            ExpressionTree over = ((EnhancedForLoopTree) tree).getExpression();
            return trees.getTypeMirror(trees.getPath(unit, over)).getKind() == TypeKind.ARRAY;
        }

        @Override
        public Void visitImport(ImportTree tree, Void nothing) {
            c.due(where(tree) + tree, tree.toString().trim().equals("import java.util.Arrays;") ? 1 : 0, 1);
            return null;
        }

        @Override
        public Void visitClass(ClassTree tree, Void nothing) {
            classes++;
            Element type = elementOf(tree);
            boolean outer = type.getEnclosingElement().getKind() == ElementKind.PACKAGE;
            Set<Modifier> modifiers = type.getModifiers();
            c.due("rule 1: " + type + " is public", modifiers.contains(Modifier.PUBLIC) ? 1 : 0, outer ? 1 : 0);
            c.due("rule 2: " + type + " is static", modifiers.contains(Modifier.STATIC) ? 1 : 0, outer ? 0 : 1);
            c.due("rule 2: " + type + " has a name", tree.getSimpleName().length() > 0 ? 1 : 0, 1);
            int fields = 0;
            for (Element member : type.getEnclosedElements()) {
                if (member.getKind() == ElementKind.FIELD && !member.getModifiers().contains(Modifier.STATIC)) {
                    fields++;
                }
                c.due("rule 5: " + member + " is no block", member.getKind() == ElementKind.STATIC_INIT ? 1 : 0, 0);
            }
            within("rule 11: fields of " + type, fields, FIELDS);
            return super.visitClass(tree, nothing);
        }

        @Override
        public Void visitVariable(VariableTree tree, Void nothing) {
            VariableElement element = (VariableElement) elementOf(tree);
            c.due("rule 3: " + tree, isAllowed(element.asType()) ? 1 : 0, 1);
            if (element.getModifiers().contains(Modifier.STATIC)) {
                c.due("rule 5: " + tree, element.getModifiers().contains(Modifier.FINAL) ? 1 : 0, 1);
                boolean row = tree.getInitializer().getKind() == Kind.NEW_ARRAY;
                c.due("rule 5: " + tree, row || element.getConstantValue() != null ? 1 : 0, 1);
            }
            return super.visitVariable(tree, nothing);
        }

        /** Numbers, rows of them, rows of rows, and classes of the file's own. */
        private static boolean isAllowed(TypeMirror type) {
            TypeMirror inner = type;
            for (int k = 0; k < 2 && inner.getKind() == TypeKind.ARRAY; k++) {
                inner = ((ArrayType) inner).getComponentType();
            }
            return inner.getKind().isPrimitive() || type.toString().startsWith("FeltCold.");
        }

        @Override
        public Void visitMethod(MethodTree tree, Void nothing) {
            inside = elementOf(tree);
            calls.put(inside, new HashSet<>());
            compared = new HashSet<>();
            divisors = new HashSet<>();
            within("rule 11: parameters of " + inside, tree.getParameters().size(), PARAMETERS);
            long first = positions.getStartPosition(unit, tree);
            long last = positions.getEndPosition(unit, tree);
            if (first >= 0 && last > first) {
                within("rule 11: lines of " + inside, (int) (line(last) - line(first) + 1), LINES);
            }
            super.visitMethod(tree, nothing);
            for (String divisor : divisors) {
                c.due("rule 7: " + inside + " looks at " + divisor, compared.contains(divisor) ? 1 : 0, 1);
            }
            inside = null;
            return null;
        }

        @Override
        public Void visitMethodInvocation(MethodInvocationTree tree, Void nothing) {
            Element called = elementOf(tree.getMethodSelect());
            String owner = called.getEnclosingElement().toString();
            boolean own = owner.startsWith("FeltCold");
            boolean made = called.getKind() == ElementKind.CONSTRUCTOR;
            String name = owner + "." + called.getSimpleName();
            c.due("rule 4: " + where(tree) + name, own || made || LIBRARY.contains(name) ? 1 : 0, 1);
            if (inside != null && !made) {
                calls.get(inside).add(called);
            }
            return super.visitMethodInvocation(tree, nothing);
        }

        @Override
        public Void visitNewClass(NewClassTree tree, Void nothing) {
            c.due(where(tree) + tree + " is made with the object", inside == null ? 1 : 0, 1);
            return super.visitNewClass(tree, nothing);
        }

        @Override
        public Void visitForLoop(ForLoopTree tree, Void nothing) {
            boolean ends = tree.getCondition() != null && !tree.getUpdate().isEmpty();
            c.due("rule 9: " + where(tree) + "its end is seen", ends ? 1 : 0, 1);
            return super.visitForLoop(tree, nothing);
        }

        @Override
        public Void visitBinary(BinaryTree tree, Void nothing) {
            switch (tree.getKind()) {
                case DIVIDE:
                case REMAINDER:
                    noteDivisor(tree.getRightOperand());
                    break;
                case EQUAL_TO:
                case NOT_EQUAL_TO:
                case LESS_THAN:
                case GREATER_THAN:
                    compared.add(tree.getLeftOperand().toString());
                    break;
                default:
                    break;
            }
            return super.visitBinary(tree, nothing);
        }

        /** A divisor is a constant, which is not 0, or has to be looked at in the same method. */
        private void noteDivisor(ExpressionTree divisor) {
            if (divisor.getKind() == Kind.INT_LITERAL) {
                c.due("rule 7: " + where(divisor) + "a divisor", divisor.toString().equals("0") ? 1 : 0, 0);
                return;
            }
            Element element = divisor instanceof IdentifierTree ? elementOf(divisor) : null;
            Object value = element instanceof VariableElement ? ((VariableElement) element).getConstantValue() : null;
            if (value instanceof Number) {
                c.due("rule 7: " + where(divisor) + divisor, ((Number) value).longValue() == 0 ? 1 : 0, 0);
            } else {
                divisors.add(divisor.toString());
            }
        }

        @Override
        public Void visitAssignment(AssignmentTree tree, Void nothing) {
            keepsConstants(tree.getVariable());
            return super.visitAssignment(tree, nothing);
        }

        @Override
        public Void visitCompoundAssignment(CompoundAssignmentTree tree, Void nothing) {
            keepsConstants(tree.getVariable());
            boolean divides = tree.getKind() == Kind.DIVIDE_ASSIGNMENT || tree.getKind() == Kind.REMAINDER_ASSIGNMENT;
            if (divides) {
                noteDivisor(tree.getExpression());
            }
            return super.visitCompoundAssignment(tree, nothing);
        }

        @Override
        public Void visitUnary(UnaryTree tree, Void nothing) {
            keepsConstants(tree.getExpression());
            return super.visitUnary(tree, nothing);
        }

        /** Rule 5: a constant array's places are read alone. */
        private void keepsConstants(ExpressionTree changed) {
            c.due("rule 5: " + where(changed) + changed, changed.toString().startsWith("KIND_SIGNS") ? 1 : 0, 0);
        }
    }
}
