import com.sun.source.tree.AssertTree;
import com.sun.source.tree.BinaryTree;
import com.sun.source.tree.BlockTree;
import com.sun.source.tree.ClassTree;
import com.sun.source.tree.CompilationUnitTree;
import com.sun.source.tree.CompoundAssignmentTree;
import com.sun.source.tree.DoWhileLoopTree;
import com.sun.source.tree.ExpressionTree;
import com.sun.source.tree.ForLoopTree;
import com.sun.source.tree.ImportTree;
import com.sun.source.tree.LambdaExpressionTree;
import com.sun.source.tree.LiteralTree;
import com.sun.source.tree.MemberReferenceTree;
import com.sun.source.tree.MethodInvocationTree;
import com.sun.source.tree.MethodTree;
import com.sun.source.tree.NewArrayTree;
import com.sun.source.tree.NewClassTree;
import com.sun.source.tree.SynchronizedTree;
import com.sun.source.tree.ThrowTree;
import com.sun.source.tree.Tree;
import com.sun.source.tree.TryTree;
import com.sun.source.tree.VariableTree;
import com.sun.source.tree.WhileLoopTree;
import com.sun.source.util.JavacTask;
import com.sun.source.util.TreePath;
import com.sun.source.util.TreePathScanner;
import com.sun.source.util.Trees;
import java.io.IOException;
import java.nio.file.Path;
import java.util.List;
import java.util.Map;
import java.util.Set;
import java.util.TreeMap;
import java.util.TreeSet;
import javax.lang.model.element.Element;
import javax.lang.model.element.ElementKind;
import javax.lang.model.element.ExecutableElement;
import javax.lang.model.element.Modifier;
import javax.lang.model.element.TypeElement;
import javax.lang.model.element.VariableElement;
import javax.lang.model.type.TypeMirror;
import javax.tools.JavaCompiler;
import javax.tools.StandardJavaFileManager;
import javax.tools.ToolProvider;

/**
 * Reads the source of PaneSpots as the compiler does and holds it against the rules of LANGUAGE.md that can be seen there. Where
 * the class needs less than a rule leaves (it has no try, and makes objects in constructors alone), the lesser is held.
 */
public final class LanguageTest {
    private static final int MOST_PARAMETERS = 7;
    private static final int MOST_LINES = 60;
    private static final int MOST_DEEP = 8;
    private static final int MOST_CLASSES = 12;
    private static final int MOST_FIELDS = 20;

    private static final Set<String> IMPORTS = Set.of("java.util.Arrays", "java.util.ArrayList", "java.util.List",
        "java.util.Iterator", "java.util.NoSuchElementException");
    private static final Map<String, Set<String>> LIBRARY = Map.of(
        "java.lang.Object", Set.of("<init>"),
        "java.lang.String", Set.of("length", "charAt", "isEmpty", "equals", "indexOf", "substring", "toCharArray"),
        "java.lang.Integer", Set.of("compare", "max", "min", "bitCount"),
        "java.lang.Long", Set.of("compare", "max", "min", "bitCount"),
        "java.lang.Math", Set.of("abs", "max", "min", "floorDiv", "floorMod"),
        "java.lang.System", Set.of("arraycopy"),
        "java.util.Arrays", Set.of("copyOf", "copyOfRange", "fill"),
        "java.util.NoSuchElementException", Set.of("<init>"));
    private static final Set<String> CONSTANTS = Set.of("int", "long", "boolean", "char", "java.lang.String", "int[]", "long[]",
        "char[]", "byte[]");

    private static int wrong;

    public static void main(String[] args) throws IOException {
        Path source = Path.of(args.length > 0 ? args[0] : "src/main/java/PaneSpots.java");
        JavaCompiler compiler = ToolProvider.getSystemJavaCompiler();
        try (StandardJavaFileManager files = compiler.getStandardFileManager(null, null, null)) {
            JavacTask task = (JavacTask) compiler.getTask(null, files, null, List.of("-proc:none"), null,
                files.getJavaFileObjects(source));
            CompilationUnitTree unit = task.parse().iterator().next();
            task.analyze();
            Rules rules = new Rules(Trees.instance(task), unit);
            rules.scan(unit, null);
            rules.end();
        }
        System.out.println("LanguageTest: " + wrong + " not as due");
        if (wrong != 0) {
            System.exit(1);
        }
    }

    private static void must(boolean so, int rule, String what) {
        if (!so) {
            wrong++;
            System.out.println("LanguageTest: rule " + rule + ": " + what);
        }
    }

    /** Walks over the whole source; what is known of the whole alone is looked at in the end. */
    private static final class Rules extends TreePathScanner<Void, Void> {
        private final Trees trees;
        private final CompilationUnitTree unit;
        private final Map<String, Set<String>> calls = new TreeMap<>();
        private final Set<String> face = new TreeSet<>();
        private final Set<String> hidden = new TreeSet<>();
        private int classes;

        Rules(Trees trees, CompilationUnitTree unit) {
            this.trees = trees;
            this.unit = unit;
        }

        void end() {
            must(unit.getPackage() == null, 1, "no package line");
            must(unit.getTypeDecls().size() == 1, 1, "one class outside of all others");
            for (String name : hidden) {
                must(!face.contains(name), 1, name + " bears the name of a public one");
            }
            must(classes <= MOST_CLASSES, 11, classes + " classes");
            Depth depth = new Depth(calls);
            for (String name : calls.keySet()) {
                List<String> way = depth.longestFrom(name);
                must(way.size() <= MOST_DEEP, 11, "calls go " + way.size() + " deep: " + way);
            }
        }

        private Element element() {
            return trees.getElement(getCurrentPath());
        }

        private String line(Tree tree) {
            return "line " + unit.getLineMap().getLineNumber(trees.getSourcePositions().getStartPosition(unit, tree));
        }

        /** The method that the current place stands in, null outside of one. */
        private ExecutableElement inside() {
            for (TreePath path = getCurrentPath(); path != null; path = path.getParentPath()) {
                if (path.getLeaf() instanceof MethodTree) {
                    return (ExecutableElement) trees.getElement(path);
                }
            }
            return null;
        }

        private boolean isInConstructor() {
            ExecutableElement method = inside();
            return method != null && method.getKind() == ElementKind.CONSTRUCTOR;
        }

        @Override
        public Void visitImport(ImportTree tree, Void none) {
            must(!tree.isStatic() && IMPORTS.contains(tree.getQualifiedIdentifier().toString()), 4, tree.toString().trim());
            return super.visitImport(tree, none);
        }

        @Override
        public Void visitClass(ClassTree tree, Void none) {
            classes++;
            TypeElement type = (TypeElement) element();
            boolean nested = type.getNestingKind().isNested();
            must(!nested || type.getModifiers().contains(Modifier.STATIC), 1, tree.getSimpleName() + " is not static");
            must(!nested || !type.getModifiers().contains(Modifier.PUBLIC), 1, tree.getSimpleName() + " is public");
            must(tree.getSimpleName().length() > 0 && getCurrentPath().getParentPath().getLeaf().getKind() != Tree.Kind.BLOCK, 2,
                line(tree) + ": a class in a method");
            int fields = 0;
            for (Tree member : tree.getMembers()) {
                must(!(member instanceof BlockTree), 5, line(member) + ": an initialiser block");
                if (member instanceof VariableTree field) {
                    fields += field.getModifiers().getFlags().contains(Modifier.STATIC) ? 0 : 1;
                }
            }
            must(fields <= MOST_FIELDS, 11, tree.getSimpleName() + " has " + fields + " fields");
            return super.visitClass(tree, none);
        }

        @Override
        public Void visitVariable(VariableTree tree, Void none) {
            if (element() instanceof VariableElement variable && variable.getKind() == ElementKind.FIELD
                    && variable.getModifiers().contains(Modifier.STATIC)) {
                must(variable.getModifiers().contains(Modifier.FINAL), 5, tree.getName() + " is static, but not final");
                must(CONSTANTS.contains(variable.asType().toString()), 5, tree.getName() + " is no constant of the language");
            }
            return super.visitVariable(tree, none);
        }

        @Override
        public Void visitMethod(MethodTree tree, Void none) {
            ExecutableElement method = (ExecutableElement) element();
            calls.computeIfAbsent(nameOf(method), key -> new TreeSet<>());
            if (method.getKind() == ElementKind.METHOD) {
                boolean open = method.getModifiers().contains(Modifier.PUBLIC);
                (open ? face : hidden).add(tree.getName().toString());
            }
            must(tree.getParameters().size() <= MOST_PARAMETERS, 11, tree.getName() + " takes too much");
            must(lines(tree) <= MOST_LINES, 11, tree.getName() + " has " + lines(tree) + " lines");
            must(!method.getModifiers().contains(Modifier.SYNCHRONIZED), 6, tree.getName() + " is synchronized");
            must(!Set.of("equals", "hashCode", "toString").contains(tree.getName().toString()), 6, tree.getName() + " of its own");
            return super.visitMethod(tree, none);
        }

        private long lines(Tree tree) {
            long from = trees.getSourcePositions().getStartPosition(unit, tree);
            long to = trees.getSourcePositions().getEndPosition(unit, tree);
            return to < 0 ? 0 : unit.getLineMap().getLineNumber(to) - unit.getLineMap().getLineNumber(from) + 1;
        }

        private static String nameOf(ExecutableElement method) {
            return method.getEnclosingElement() + "." + method;
        }

        @Override
        public Void visitMethodInvocation(MethodInvocationTree tree, Void none) {
            noteCall((ExecutableElement) element(), tree);
            return super.visitMethodInvocation(tree, none);
        }

        private void noteCall(ExecutableElement called, Tree tree) {
            String owner = called.getEnclosingElement().toString();
            if (owner.equals("PaneSpots") || owner.startsWith("PaneSpots.")) {
                ExecutableElement from = inside();
                if (from != null) {
                    calls.computeIfAbsent(nameOf(from), key -> new TreeSet<>()).add(nameOf(called));
                }
            } else {
                Set<String> free = LIBRARY.getOrDefault(owner, Set.of());
                must(free.contains(called.getSimpleName().toString()), 4, line(tree) + ": " + owner + "." + called);
            }
        }

        @Override
        public Void visitNewClass(NewClassTree tree, Void none) {
            boolean thrown = getCurrentPath().getParentPath().getLeaf() instanceof ThrowTree;
            must(thrown || isInConstructor(), 12, line(tree) + ": an object made by a call");
            must(tree.getClassBody() == null, 2, line(tree) + ": an anonymous class");
            noteCall((ExecutableElement) element(), tree);
            return super.visitNewClass(tree, none);
        }

        @Override
        public Void visitNewArray(NewArrayTree tree, Void none) {
            must(isInConstructor(), 12, line(tree) + ": an array made by a call");
            return super.visitNewArray(tree, none);
        }

        @Override
        public Void visitThrow(ThrowTree tree, Void none) {
            must(!isInConstructor(), 6, line(tree) + ": a throw in a constructor");
            must(tree.getExpression() instanceof NewClassTree made && isPlain(made), 6, line(tree) + ": " + tree);
            return super.visitThrow(tree, none);
        }

        private static boolean isPlain(NewClassTree made) {
            boolean written = made.getArguments().size() == 1 && made.getArguments().get(0) instanceof LiteralTree;
            // The document names this one alone.
            return made.getIdentifier().toString().equals("NoSuchElementException") && (made.getArguments().isEmpty() || written);
        }

        @Override
        public Void visitBinary(BinaryTree tree, Void none) {
            must(!isText(typeAt(tree.getLeftOperand())) && !isText(typeAt(tree.getRightOperand())), 10, line(tree) + ": " + tree);
            if (tree.getKind() == Tree.Kind.DIVIDE || tree.getKind() == Tree.Kind.REMAINDER) {
                must(isSafeDivisor(tree.getRightOperand()), 7, line(tree) + ": " + tree);
            }
            return super.visitBinary(tree, none);
        }

        /** A constant, or a divisor that the same expression has tested. */
        private boolean isSafeDivisor(ExpressionTree divisor) {
            Element constant = trees.getElement(new TreePath(getCurrentPath(), divisor));
            if (divisor instanceof LiteralTree) {
                return true;
            }
            if (constant instanceof VariableElement variable && variable.getConstantValue() != null) {
                return true;
            }
            return getCurrentPath().getParentPath().getLeaf().toString().startsWith(divisor + " > 0 ? ");
        }

        @Override
        public Void visitCompoundAssignment(CompoundAssignmentTree tree, Void none) {
            boolean divides = tree.getKind() == Tree.Kind.DIVIDE_ASSIGNMENT || tree.getKind() == Tree.Kind.REMAINDER_ASSIGNMENT;
            must(!divides, 7, line(tree) + ": " + tree);
            must(!isText(typeAt(tree.getVariable())), 10, line(tree) + ": " + tree);
            return super.visitCompoundAssignment(tree, none);
        }

        private TypeMirror typeAt(Tree tree) {
            return trees.getTypeMirror(new TreePath(getCurrentPath(), tree));
        }

        private static boolean isText(TypeMirror type) {
            return type != null && type.toString().equals("java.lang.String");
        }

        @Override
        public Void visitLiteral(LiteralTree tree, Void none) {
            if (tree.getValue() instanceof String text) {
                must(text.chars().allMatch(sign -> sign >= 1 && sign <= 127), 4, line(tree) + ": a sign beyond 127");
            }
            return super.visitLiteral(tree, none);
        }

        @Override
        public Void visitForLoop(ForLoopTree tree, Void none) {
            must(tree.getCondition() != null && tree.getUpdate().size() == 1, 9, line(tree) + ": a loop without a counter");
            return super.visitForLoop(tree, none);
        }

        @Override
        public Void visitWhileLoop(WhileLoopTree tree, Void none) {
            must(tree.getCondition().toString().contains(" < "), 9, line(tree) + ": a loop without a bound");
            return super.visitWhileLoop(tree, none);
        }

        @Override
        public Void visitDoWhileLoop(DoWhileLoopTree tree, Void none) {
            must(tree.getCondition().toString().contains(" < "), 9, line(tree) + ": a loop without a bound");
            return super.visitDoWhileLoop(tree, none);
        }

        @Override
        public Void visitLambdaExpression(LambdaExpressionTree tree, Void none) {
            must(false, 2, line(tree) + ": a lambda");
            return super.visitLambdaExpression(tree, none);
        }

        @Override
        public Void visitMemberReference(MemberReferenceTree tree, Void none) {
            must(false, 2, line(tree) + ": a method reference");
            return super.visitMemberReference(tree, none);
        }

        @Override
        public Void visitTry(TryTree tree, Void none) {
            must(false, 6, line(tree) + ": a try");
            return super.visitTry(tree, none);
        }

        @Override
        public Void visitAssert(AssertTree tree, Void none) {
            must(false, 6, line(tree) + ": an assert");
            return super.visitAssert(tree, none);
        }

        @Override
        public Void visitSynchronized(SynchronizedTree tree, Void none) {
            must(false, 6, line(tree) + ": synchronized");
            return super.visitSynchronized(tree, none);
        }
    }

    /** How deep calls go; methods that call one another round and round count as one. */
    private static final class Depth {
        private final Map<String, Set<String>> calls;
        private final Map<String, Set<String>> reached = new TreeMap<>();
        private final Map<String, List<String>> longest = new TreeMap<>();

        Depth(Map<String, Set<String>> calls) {
            this.calls = calls;
            for (String name : calls.keySet()) {
                Set<String> all = new TreeSet<>();
                reach(name, all);
                reached.put(name, all);
            }
        }

        private void reach(String name, Set<String> all) {
            for (String next : calls.getOrDefault(name, Set.of())) {
                if (all.add(next)) {
                    reach(next, all);
                }
            }
        }

        private boolean goesRound(String name, String other) {
            return name.equals(other) || reached.getOrDefault(name, Set.of()).contains(other)
                && reached.getOrDefault(other, Set.of()).contains(name);
        }

        List<String> longestFrom(String name) {
            List<String> known = longest.get(name);
            if (known != null) {
                return known;
            }
            List<String> best = List.of();
            for (String same : calls.keySet()) {
                if (goesRound(name, same)) {
                    for (String next : calls.get(same)) {
                        List<String> way = goesRound(name, next) ? List.of() : longestFrom(next);
                        best = way.size() > best.size() ? way : best;
                    }
                }
            }
            List<String> way = new java.util.ArrayList<>(List.of(name));
            way.addAll(best);
            longest.put(name, way);
            return way;
        }
    }
}
