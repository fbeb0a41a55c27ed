import com.sun.source.tree.ArrayAccessTree;
import com.sun.source.tree.BinaryTree;
import com.sun.source.tree.BlockTree;
import com.sun.source.tree.ClassTree;
import com.sun.source.tree.CompilationUnitTree;
import com.sun.source.tree.DoWhileLoopTree;
import com.sun.source.tree.EnhancedForLoopTree;
import com.sun.source.tree.ExpressionTree;
import com.sun.source.tree.ForLoopTree;
import com.sun.source.tree.InstanceOfTree;
import com.sun.source.tree.LambdaExpressionTree;
import com.sun.source.tree.LiteralTree;
import com.sun.source.tree.MemberReferenceTree;
import com.sun.source.tree.MethodInvocationTree;
import com.sun.source.tree.MethodTree;
import com.sun.source.tree.NewArrayTree;
import com.sun.source.tree.NewClassTree;
import com.sun.source.tree.SynchronizedTree;
import com.sun.source.tree.ThrowTree;
import com.sun.source.tree.Tree;
import com.sun.source.tree.TryTree;
import com.sun.source.tree.TypeCastTree;
import com.sun.source.tree.VariableTree;
import com.sun.source.tree.WhileLoopTree;
import com.sun.source.util.JavacTask;
import com.sun.source.util.SourcePositions;
import com.sun.source.util.TreePath;
import com.sun.source.util.TreePathScanner;
import com.sun.source.util.Trees;
import java.io.IOException;
import java.nio.file.Path;
import java.util.HashMap;
import java.util.HashSet;
import java.util.List;
import java.util.Map;
import java.util.Set;
import java.util.TreeSet;
import javax.lang.model.element.Element;
import javax.lang.model.element.Modifier;
import javax.lang.model.type.TypeKind;
import javax.lang.model.type.TypeMirror;
import javax.tools.JavaCompiler;
import javax.tools.StandardJavaFileManager;
import javax.tools.ToolProvider;

/**
 * Rules of ../shared/LANGUAGE.md that the compiler's view of the class shows, told by their numbers. The class keeps to less
 * than the rules allow (no try, no lists, no texts), and it is held to that; run in the project's folder.
 */
public final class LanguageTreeTest {
    private static final Path SOURCE = Path.of("src", "main", "java", "FieldBook.java");

    private static final Set<String> LIBRARY = Set.of("java.lang.Math.min", "java.lang.System.arraycopy", "java.lang.Object.<init>");
    private static final Set<String> EXCEPTIONS = Set.of("IllegalStateException", "IllegalArgumentException",
            "IndexOutOfBoundsException");
    private static final Set<TypeKind> NUMBERS = Set.of(TypeKind.INT, TypeKind.LONG, TypeKind.BOOLEAN, TypeKind.DOUBLE);
    private static final Set<Tree.Kind> ON_DOUBLES = Set.of(Tree.Kind.PLUS, Tree.Kind.MINUS, Tree.Kind.MULTIPLY,
            Tree.Kind.DIVIDE, Tree.Kind.LESS_THAN, Tree.Kind.LESS_THAN_EQUAL, Tree.Kind.GREATER_THAN,
            Tree.Kind.GREATER_THAN_EQUAL);

    private static final int MOST_PARAMETERS = 7;
    private static final int MOST_LINES = 60;
    private static final int MOST_CLASSES = 12;
    private static final int MOST_FIELDS = 20;
    private static final int MOST_CALLS_OPEN = 8;

    public static void main(String[] args) throws IOException {
        JavaCompiler compiler = ToolProvider.getSystemJavaCompiler();
        if (compiler == null) {
            System.out.println("LanguageTreeTest is left out: this java has no compiler");
            return;
        }
        try (StandardJavaFileManager files = compiler.getStandardFileManager(null, null, null)) {
            JavacTask task = (JavacTask) compiler.getTask(null, files, null, List.of("-proc:none"), null,
                    files.getJavaFileObjects(SOURCE));
            CompilationUnitTree unit = task.parse().iterator().next();
            task.analyze();
            Rules rules = new Rules(Trees.instance(task), unit);
            rules.scan(unit, null);
            rules.end();
        }
        Check.end();
    }

    private static void must(String rule, boolean holds) {
        Check.due("rule " + rule, holds ? "kept" : "broken", "kept");
    }

    /** Looks at each node once; what it finds of calls is held against the rules at the end. */
    private static final class Rules extends TreePathScanner<Void, Void> {
        private final Trees trees;
        private final CompilationUnitTree unit;
        private final SourcePositions positions;
        private final Map<String, Set<String>> calls = new HashMap<>();
        private final Set<String> classes = new TreeSet<>();
        private int methods = 0;

        Rules(Trees trees, CompilationUnitTree unit) {
            this.trees = trees;
            this.unit = unit;
            this.positions = trees.getSourcePositions();
        }

        private long line(long position) {
            return unit.getLineMap().getLineNumber(position);
        }

        private String at(Tree tree) {
            return " at line " + line(positions.getStartPosition(unit, tree));
        }

        /** The class and the name of a method; no two methods of a class bear the same name, but for constructors. */
        private static String nameOf(Element element) {
            return element.getEnclosingElement() + "." + element.getSimpleName();
        }

        private MethodTree methodAround() {
            for (TreePath path = getCurrentPath(); path != null; path = path.getParentPath()) {
                if (path.getLeaf() instanceof MethodTree) {
                    return (MethodTree) path.getLeaf();
                }
            }
            return null;
        }

        private boolean inConstructor() {
            MethodTree around = methodAround();
            return around != null && around.getReturnType() == null;
        }

        private TypeMirror typeOf(Tree tree) {
            return trees.getTypeMirror(new TreePath(getCurrentPath(), tree));
        }

        private boolean isOwn(TypeMirror type) {
            return type.getKind() == TypeKind.DECLARED && (type + ".").startsWith("FieldBook.");
        }

        private boolean isKept(TypeMirror type) {
            if (type.getKind() == TypeKind.ARRAY) {
                String element = type.toString().replaceFirst("\\[\\]$", "");
                return element.equals("int") || element.startsWith("FieldBook.") && !element.contains("[");
            }
            return NUMBERS.contains(type.getKind()) || isOwn(type);
        }

        @Override
        public Void visitClass(ClassTree tree, Void none) {
            Element element = trees.getElement(getCurrentPath());
            classes.add(element.toString());
            boolean outer = element.toString().equals("FieldBook");
            must("2, a class inside is static: " + element, outer || element.getModifiers().contains(Modifier.STATIC));
            must("2, no class in a method" + at(tree), methodAround() == null);
            must("6, no kinds of exceptions of its own: " + element, tree.getExtendsClause() == null);
            int fields = 0;
            Set<String> names = new HashSet<>();
            for (Tree member : tree.getMembers()) {
                must("5, no block in a class" + at(member), !(member instanceof BlockTree));
                if (member instanceof VariableTree && !((VariableTree) member).getModifiers().getFlags().contains(Modifier.STATIC)) {
                    fields++;
                }
                if (member instanceof MethodTree) {
                    must("(this test) no name twice in " + element, names.add(((MethodTree) member).getName().toString()));
                }
            }
            must("11, some twenty fields in " + element, fields <= MOST_FIELDS);
            return super.visitClass(tree, none);
        }

        @Override
        public Void visitVariable(VariableTree tree, Void none) {
            must("3, the type of " + tree.getName() + at(tree), isKept(trees.getTypeMirror(getCurrentPath())));
            Set<Modifier> flags = tree.getModifiers().getFlags();
            if (flags.contains(Modifier.STATIC)) {
                must("5, a static field is final: " + tree.getName(), flags.contains(Modifier.FINAL));
                must("5, a static field is a number: " + tree.getName(), typeOf(tree.getType()).getKind() == TypeKind.INT);
            }
            return super.visitVariable(tree, none);
        }

        @Override
        public Void visitMethod(MethodTree tree, Void none) {
            methods++;
            must("11, parameters of " + tree.getName(), tree.getParameters().size() <= MOST_PARAMETERS);
            long lines = line(positions.getEndPosition(unit, tree)) - line(positions.getStartPosition(unit, tree)) + 1;
            must("11, lines of " + tree.getName(), lines <= MOST_LINES);
            calls.computeIfAbsent(nameOf(trees.getElement(getCurrentPath())), name -> new TreeSet<>());
            return super.visitMethod(tree, none);
        }

        private void calls(Element called) {
            MethodTree around = methodAround();
            if (around == null) {
                must("12, no call outside of methods: " + called, false);
                return;
            }
            Element caller = trees.getElement(TreePath.getPath(unit, around));
            calls.computeIfAbsent(nameOf(caller), name -> new TreeSet<>()).add(nameOf(called));
        }

        @Override
        public Void visitMethodInvocation(MethodInvocationTree tree, Void none) {
            Element called = trees.getElement(getCurrentPath());
            boolean own = isOwn(called.getEnclosingElement().asType());
            must("4, " + nameOf(called) + at(tree), own || LIBRARY.contains(nameOf(called)));
            if (own) {
                calls(called);
            }
            return super.visitMethodInvocation(tree, none);
        }

        @Override
        public Void visitNewClass(NewClassTree tree, Void none) {
            must("2, no class without a name" + at(tree), tree.getClassBody() == null);
            boolean thrown = getCurrentPath().getParentPath().getLeaf() instanceof ThrowTree;
            must("12, objects are made by constructors and thrown" + at(tree), thrown || inConstructor());
            if (!thrown) {
                must("4, own classes alone" + at(tree), isOwn(trees.getTypeMirror(getCurrentPath())));
                calls(trees.getElement(getCurrentPath()));
            }
            return super.visitNewClass(tree, none);
        }

        @Override
        public Void visitNewArray(NewArrayTree tree, Void none) {
            must("12, arrays are made by constructors" + at(tree), inConstructor());
            must("3, arrays of one dimension" + at(tree), tree.getDimensions().size() == 1);
            return super.visitNewArray(tree, none);
        }

        @Override
        public Void visitThrow(ThrowTree tree, Void none) {
            must("6, no throw in a constructor" + at(tree), !inConstructor());
            ExpressionTree thrown = tree.getExpression();
            boolean written = thrown instanceof NewClassTree
                    && EXCEPTIONS.contains(((NewClassTree) thrown).getIdentifier().toString())
                    && ((NewClassTree) thrown).getArguments().size() == 1
                    && ((NewClassTree) thrown).getArguments().get(0).getKind() == Tree.Kind.STRING_LITERAL;
            must("6, throw new E(\"a written text\")" + at(tree), written);
            return super.visitThrow(tree, none);
        }

        @Override
        public Void visitLiteral(LiteralTree tree, Void none) {
            if (tree.getValue() instanceof String) {
                must("10, texts stand in exceptions alone" + at(tree),
                        getCurrentPath().getParentPath().getParentPath().getLeaf() instanceof ThrowTree);
            }
            return super.visitLiteral(tree, none);
        }

        @Override
        public Void visitBinary(BinaryTree tree, Void none) {
            boolean left = typeOf(tree.getLeftOperand()).getKind() == TypeKind.DOUBLE;
            boolean right = typeOf(tree.getRightOperand()).getKind() == TypeKind.DOUBLE;
            must("3, on doubles only + - * / and comparisons" + at(tree), !left && !right || ON_DOUBLES.contains(tree.getKind()));
            if (tree.getKind() == Tree.Kind.DIVIDE || tree.getKind() == Tree.Kind.REMAINDER) {
                divisor(tree, tree.getRightOperand().toString());
            }
            return super.visitBinary(tree, none);
        }

        /** A divisor is a number above 0, a constant, or a name that the same method compares with 0. */
        private void divisor(BinaryTree tree, String name) {
            boolean constant = name.matches("[1-9][0-9]*|MOST_[A-Z]+");
            MethodTree around = methodAround();
            boolean tested = around != null && around.getBody().toString().matches("(?s).*\\b" + name + " (<=|>) 0\\b.*");
            must("7, a divisor is looked at before it divides" + at(tree), constant || tested);
        }

        @Override
        public Void visitArrayAccess(ArrayAccessTree tree, Void none) {
            MethodTree around = methodAround();
            String index = tree.getIndex().toString();
            String array = tree.getExpression().toString();
            String compared = "(?s).*\\b" + index + " (<|>=) " + array.replace(".", "\\.") + "\\.length\\b.*";
            must("7, an index is looked at before it is used" + at(tree),
                    around != null && around.getBody().toString().matches(compared));
            return super.visitArrayAccess(tree, none);
        }

        @Override
        public Void visitTypeCast(TypeCastTree tree, Void none) {
            must("6, casts between numbers alone" + at(tree), typeOf(tree.getType()).getKind().isPrimitive());
            return super.visitTypeCast(tree, none);
        }

        /** It counts up to a bound, by steps of a number, and what it counts by is not set in it. */
        @Override
        public Void visitForLoop(ForLoopTree tree, Void none) {
            String condition = String.valueOf(tree.getCondition());
            String name = tree.getInitializer().get(0) instanceof VariableTree
                    ? ((VariableTree) tree.getInitializer().get(0)).getName().toString() : "?";
            must("9, a bound" + at(tree), condition.matches("\\(?" + name + " < .*"));
            must("9, a step" + at(tree), tree.getUpdate().size() == 1
                    && tree.getUpdate().get(0).toString().matches(name + "(\\+\\+| \\+= [1-9]);?"));
            must("9, nothing else sets the counter" + at(tree),
                    !tree.getStatement().toString().matches("(?s).*\\b" + name + "( [-+*/%]?= |\\+\\+|--).*"));
            return super.visitForLoop(tree, none);
        }

        @Override
        public Void visitWhileLoop(WhileLoopTree tree, Void none) {
            must("9, (this class) loops count" + at(tree), false);
            return super.visitWhileLoop(tree, none);
        }

        @Override
        public Void visitDoWhileLoop(DoWhileLoopTree tree, Void none) {
            must("9, (this class) loops count" + at(tree), false);
            return super.visitDoWhileLoop(tree, none);
        }

        @Override
        public Void visitEnhancedForLoop(EnhancedForLoopTree tree, Void none) {
            must("9, (this class) loops count" + at(tree), false);
            return super.visitEnhancedForLoop(tree, none);
        }

        @Override
        public Void visitTry(TryTree tree, Void none) {
            must("6, (this class) nothing is caught" + at(tree), false);
            return super.visitTry(tree, none);
        }

        @Override
        public Void visitSynchronized(SynchronizedTree tree, Void none) {
            must("6, no synchronized" + at(tree), false);
            return super.visitSynchronized(tree, none);
        }

        @Override
        public Void visitInstanceOf(InstanceOfTree tree, Void none) {
            must("6, (this class) no instanceof" + at(tree), false);
            return super.visitInstanceOf(tree, none);
        }

        @Override
        public Void visitLambdaExpression(LambdaExpressionTree tree, Void none) {
            must("2, no lambda" + at(tree), false);
            return super.visitLambdaExpression(tree, none);
        }

        @Override
        public Void visitMemberReference(MemberReferenceTree tree, Void none) {
            must("2, no reference to a method" + at(tree), false);
            return super.visitMemberReference(tree, none);
        }

        /** How many calls stand open at once, at the most; a method that comes back to itself is recursion. */
        private int open(String method, Set<String> above) {
            must("8, (this class) no recursion: " + method, !above.contains(method));
            if (above.contains(method)) {
                return 0;
            }
            Set<String> way = new HashSet<>(above);
            way.add(method);
            int deepest = 0;
            for (String called : calls.getOrDefault(method, Set.of())) {
                deepest = Math.max(deepest, open(called, way));
            }
            return deepest + 1;
        }

        void end() {
            must("11, some twelve classes", classes.size() <= MOST_CLASSES);
            must("(this test) the whole class was seen", classes.size() > 1 && methods > 50);
            for (String method : calls.keySet()) {
                int open = open(method, Set.of());
                must("11, calls open at once below " + method + ": " + open, open <= MOST_CALLS_OPEN);
            }
        }
    }
}
