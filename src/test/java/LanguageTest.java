import com.sun.source.tree.ArrayTypeTree;
import com.sun.source.tree.AssertTree;
import com.sun.source.tree.BinaryTree;
import com.sun.source.tree.ClassTree;
import com.sun.source.tree.CompilationUnitTree;
import com.sun.source.tree.ExpressionTree;
import com.sun.source.tree.IdentifierTree;
import com.sun.source.tree.ImportTree;
import com.sun.source.tree.InstanceOfTree;
import com.sun.source.tree.LambdaExpressionTree;
import com.sun.source.tree.LiteralTree;
import com.sun.source.tree.MemberReferenceTree;
import com.sun.source.tree.MethodInvocationTree;
import com.sun.source.tree.MethodTree;
import com.sun.source.tree.NewArrayTree;
import com.sun.source.tree.NewClassTree;
import com.sun.source.tree.PrimitiveTypeTree;
import com.sun.source.tree.SynchronizedTree;
import com.sun.source.tree.ThrowTree;
import com.sun.source.tree.Tree;
import com.sun.source.tree.TryTree;
import com.sun.source.tree.TypeCastTree;
import com.sun.source.tree.VariableTree;
import com.sun.source.util.JavacTask;
import com.sun.source.util.TreePath;
import com.sun.source.util.TreePathScanner;
import com.sun.source.util.Trees;
import java.io.File;
import java.io.IOException;
import java.util.ArrayList;
import java.util.HashMap;
import java.util.List;
import java.util.Map;
import java.util.Set;
import java.util.TreeSet;
import java.util.function.BooleanSupplier;
import javax.lang.model.element.Element;
import javax.lang.model.element.ElementKind;
import javax.lang.model.element.ExecutableElement;
import javax.lang.model.element.Modifier;
import javax.lang.model.type.TypeKind;
import javax.tools.JavaCompiler;
import javax.tools.StandardJavaFileManager;
import javax.tools.ToolProvider;

/**
 * The class as javac reads it, held to ../shared/LANGUAGE.md: what it may call, make, throw and cast, how
 * deep its calls go, how long its methods are, how it divides.
 */
public final class LanguageTest {
    private static final Check CHECK = new Check("LanguageTest");
    private static final int DEEPEST = 8;
    private static final int LONGEST = 60;
    private static final int PARAMETERS = 7;
    private static final int CLASSES = 12;
    private static final int FIELDS = 20;
    private static final Set<String> LIBRARY = Set.of("java.lang.String.length", "java.lang.String.charAt", "java.lang.String.indexOf",
        "java.lang.Math.min", "java.lang.Math.max", "java.lang.System.arraycopy", "java.util.Arrays.fill");
    private static final Set<String> IMPORTS = Set.of("java.util.Arrays", "java.util.NoSuchElementException");
    private static final Set<String> THROWN = Set.of("IllegalArgumentException", "NoSuchElementException");
    private static final Set<String> RECURSIVE = Set.of("DustParish.evenest");
    private static final Set<String> CONSTANTS = Set.of("int", "long", "boolean", "char", "java.lang.String");

    public static void main(String[] args) throws IOException {
        JavaCompiler compiler = ToolProvider.getSystemJavaCompiler();
        try (StandardJavaFileManager files = compiler.getStandardFileManager(null, null, null)) {
            JavacTask task = (JavacTask) compiler.getTask(null, files, null, List.of("-proc:none"), null,
                files.getJavaFileObjects(new File("src/main/java/DustParish.java")));
            CompilationUnitTree unit = task.parse().iterator().next();
            task.analyze();
            Look look = new Look(Trees.instance(task), unit);
            look.scan(unit, null);
            look.end();
        }
        CHECK.end();
    }

    private static void holds(String what, BooleanSupplier held) {
        CHECK.due(what, 1, () -> held.getAsBoolean() ? 1 : 0);
    }

    /** Goes through the file once; what needs the whole of it is asked at the end. */
    private static final class Look extends TreePathScanner<Void, Void> {
        private final Trees trees;
        private final CompilationUnitTree unit;
        private final Map<String, TreeSet<String>> calls = new HashMap<>();
        private final TreeSet<String> face = new TreeSet<>();
        private final List<String> hidden = new ArrayList<>();
        private int classes = 0;

        Look(Trees trees, CompilationUnitTree unit) {
            this.trees = trees;
            this.unit = unit;
        }

        private String at(Tree tree) {
            long place = trees.getSourcePositions().getStartPosition(unit, tree);
            return " (line " + unit.getLineMap().getLineNumber(place) + ")";
        }

        private Element element() {
            return trees.getElement(getCurrentPath());
        }

        private TreePath around(Tree.Kind kind) {
            TreePath path = getCurrentPath();
            while (path != null && path.getLeaf().getKind() != kind) {
                path = path.getParentPath();
            }
            return path;
        }

        private MethodTree method() {
            TreePath path = around(Tree.Kind.METHOD);
            return path == null ? null : (MethodTree) path.getLeaf();
        }

        private static String name(Element method) {
            return ((javax.lang.model.element.TypeElement) method.getEnclosingElement()).getQualifiedName() + "." + method.getSimpleName();
        }

        @Override
        public Void visitImport(ImportTree tree, Void none) {
            holds("rule 4, import of " + tree.getQualifiedIdentifier(), () -> IMPORTS.contains(tree.getQualifiedIdentifier().toString()));
            return super.visitImport(tree, none);
        }

        @Override
        public Void visitClass(ClassTree tree, Void none) {
            classes++;
            long fields = tree.getMembers().stream().filter(m -> m.getKind() == Tree.Kind.VARIABLE
                && !((VariableTree) m).getModifiers().getFlags().contains(Modifier.STATIC)).count();
            holds("rule 11, fields of " + tree.getSimpleName() + ": " + fields, () -> fields <= FIELDS);
            holds("rule 5, no static block in " + tree.getSimpleName(),
                () -> tree.getMembers().stream().noneMatch(m -> m.getKind() == Tree.Kind.BLOCK));
            Set<Modifier> flags = tree.getModifiers().getFlags();
            boolean outer = tree.getSimpleName().contentEquals("DustParish");
            holds("rule 1, " + tree.getSimpleName() + " is " + flags, () -> flags.contains(Modifier.FINAL)
                && (outer ? flags.contains(Modifier.PUBLIC) : flags.contains(Modifier.PRIVATE) && flags.contains(Modifier.STATIC)));
            return super.visitClass(tree, none);
        }

        @Override
        public Void visitMethod(MethodTree tree, Void none) {
            Element method = element();
            String name = name(method);
            calls.putIfAbsent(name, new TreeSet<>());
            boolean shown = tree.getModifiers().getFlags().contains(Modifier.PUBLIC);
            if (method.getKind() == ElementKind.METHOD && shown) {
                face.add(name);
            } else {
                hidden.add(name);
            }
            boolean outer = name.startsWith("DustParish.") && name.indexOf('.') == name.lastIndexOf('.');
            holds("rule 1, public or private: " + name, () -> !outer || shown || tree.getModifiers().getFlags().contains(Modifier.PRIVATE)
                || method.getKind() == ElementKind.CONSTRUCTOR);
            holds("rule 11, parameters of " + name, () -> tree.getParameters().size() <= PARAMETERS);
            long from = unit.getLineMap().getLineNumber(trees.getSourcePositions().getStartPosition(unit, tree));
            long to = unit.getLineMap().getLineNumber(Math.max(0, trees.getSourcePositions().getEndPosition(unit, tree)));
            holds("rule 11, lines of " + name + ": " + (to - from + 1), () -> to - from < LONGEST);
            return super.visitMethod(tree, none);
        }

        @Override
        public Void visitVariable(VariableTree tree, Void none) {
            Element field = element();
            if (field.getKind() == ElementKind.FIELD && field.getModifiers().contains(Modifier.STATIC)) {
                holds("rule 5, static and final: " + tree.getName() + at(tree), () -> field.getModifiers().contains(Modifier.FINAL));
                holds("rule 5, a constant: " + tree.getName() + at(tree), () -> CONSTANTS.contains(field.asType().toString()));
            }
            return super.visitVariable(tree, none);
        }

        @Override
        public Void visitMethodInvocation(MethodInvocationTree tree, Void none) {
            Element called = element();
            MethodTree in = method();
            String name = name(called);
            // A constructor's call of that above it is written by javac.
            if (called.getKind() == ElementKind.CONSTRUCTOR) {
                return super.visitMethodInvocation(tree, none);
            }
            if (name.startsWith("DustParish.")) {
                holds("rule 12, fields begin without calls" + at(tree), () -> in != null);
                calls.computeIfAbsent(name(trees.getElement(around(Tree.Kind.METHOD))), k -> new TreeSet<>()).add(name);
            } else {
                holds("rule 4, " + name + at(tree), () -> LIBRARY.contains(name));
                holds("rule 4, no doubles in " + name + at(tree), () -> ((ExecutableElement) called).getReturnType().getKind() != TypeKind.DOUBLE);
            }
            return super.visitMethodInvocation(tree, none);
        }

        /** All that is made is made once with an object, but for what is thrown. */
        @Override
        public Void visitNewClass(NewClassTree tree, Void none) {
            MethodTree in = method();
            boolean thrown = getCurrentPath().getParentPath().getLeaf().getKind() == Tree.Kind.THROW;
            holds("rule 12, made with the object alone: " + tree + at(tree), () -> thrown || in == null || in.getReturnType() == null);
            holds("rule 2, no class without a name" + at(tree), () -> tree.getClassBody() == null);
            return super.visitNewClass(tree, none);
        }

        @Override
        public Void visitNewArray(NewArrayTree tree, Void none) {
            holds("rule 12, made with the object alone: " + tree + at(tree), () -> method() == null);
            return super.visitNewArray(tree, none);
        }

        @Override
        public Void visitArrayType(ArrayTypeTree tree, Void none) {
            holds("rule 3, of one dimension" + at(tree), () -> tree.getType().getKind() != Tree.Kind.ARRAY_TYPE);
            return super.visitArrayType(tree, none);
        }

        @Override
        public Void visitThrow(ThrowTree tree, Void none) {
            MethodTree in = method();
            holds("rule 6, no throw in a constructor" + at(tree), () -> in != null && in.getReturnType() != null);
            holds("rule 6, throw new E()" + at(tree), () -> tree.getExpression() instanceof NewClassTree made
                && THROWN.contains(made.getIdentifier().toString()) && made.getArguments().isEmpty());
            return super.visitThrow(tree, none);
        }

        @Override
        public Void visitTypeCast(TypeCastTree tree, Void none) {
            holds("rule 6, casts of numbers alone" + at(tree), () -> tree.getType() instanceof PrimitiveTypeTree);
            return super.visitTypeCast(tree, none);
        }

        /** A divisor is written out, or the method that divides by it has looked at it. */
        @Override
        public Void visitBinary(BinaryTree tree, Void none) {
            if (tree.getKind() == Tree.Kind.DIVIDE || tree.getKind() == Tree.Kind.REMAINDER) {
                String divisor = tree.getRightOperand().toString();
                String body = String.valueOf(method());
                holds("rule 7, the divisor " + divisor + at(tree), () -> isConstant(tree.getRightOperand())
                    || body.contains(divisor + " > 0") || body.contains(divisor + " == 0"));
            }
            if (tree.getKind() == Tree.Kind.PLUS) {
                holds("rule 10, no texts joined by +" + at(tree), () -> trees.getTypeMirror(getCurrentPath()).getKind().isPrimitive());
            }
            return super.visitBinary(tree, none);
        }

        private static boolean isConstant(ExpressionTree tree) {
            if (tree instanceof LiteralTree number) {
                return !"0".equals(number.toString());
            }
            return tree instanceof IdentifierTree name && name.getName().toString().matches("[A-Z]+");
        }

        @Override
        public Void visitPrimitiveType(PrimitiveTypeTree tree, Void none) {
            holds("rule 3, no double, no float" + at(tree),
                () -> tree.getPrimitiveTypeKind() != TypeKind.DOUBLE && tree.getPrimitiveTypeKind() != TypeKind.FLOAT);
            return super.visitPrimitiveType(tree, none);
        }

        @Override
        public Void visitLiteral(LiteralTree tree, Void none) {
            holds("rule 7, no null" + at(tree), () -> tree.getKind() != Tree.Kind.NULL_LITERAL);
            boolean plain = !(tree.getValue() instanceof String text) || text.chars().allMatch(c -> c > 0 && c < 128);
            holds("rule 4, signs of a text" + at(tree), () -> plain);
            return super.visitLiteral(tree, none);
        }

        @Override
        public Void visitTry(TryTree tree, Void none) {
            holds("no try" + at(tree), () -> false);
            return super.visitTry(tree, none);
        }

        @Override
        public Void visitLambdaExpression(LambdaExpressionTree tree, Void none) {
            holds("rule 2, no lambda" + at(tree), () -> false);
            return super.visitLambdaExpression(tree, none);
        }

        @Override
        public Void visitMemberReference(MemberReferenceTree tree, Void none) {
            holds("rule 2, no method reference" + at(tree), () -> false);
            return super.visitMemberReference(tree, none);
        }

        @Override
        public Void visitSynchronized(SynchronizedTree tree, Void none) {
            holds("rule 6, no synchronized" + at(tree), () -> false);
            return super.visitSynchronized(tree, none);
        }

        @Override
        public Void visitAssert(AssertTree tree, Void none) {
            holds("rule 6, no assert" + at(tree), () -> false);
            return super.visitAssert(tree, none);
        }

        @Override
        public Void visitInstanceOf(InstanceOfTree tree, Void none) {
            holds("no instanceof: nothing here is of several kinds" + at(tree), () -> false);
            return super.visitInstanceOf(tree, none);
        }

        void end() {
            holds("rule 11, classes: " + classes, () -> classes <= CLASSES);
            CHECK.due("methods of the face", 38, face::size);
            for (String name : hidden) {
                String plain = name.substring(name.lastIndexOf('.') + 1);
                holds("rule 1, no name of the face: " + name, () -> !face.contains("DustParish." + plain));
            }
            for (String name : face) {
                List<String> way = deepest(name, new ArrayList<>());
                holds("rule 11, calls at most eight deep: " + way, () -> way.size() <= DEEPEST);
            }
            TreeSet<String> reached = new TreeSet<>(face);
            for (String name : face) {
                reach(name, reached);
            }
            for (String name : calls.keySet()) {
                holds("somebody calls " + name, () -> reached.contains(name) || name.endsWith(".<init>"));
            }
        }

        /** The longest row of calls from a method on; one that calls itself counts once. */
        private List<String> deepest(String name, List<String> open) {
            List<String> best = List.of();
            List<String> nowOpen = new ArrayList<>(open);
            nowOpen.add(name);
            for (String called : calls.getOrDefault(name, new TreeSet<>())) {
                if (nowOpen.contains(called)) {
                    holds("rule 8, " + called + " comes back to itself", () -> RECURSIVE.contains(called) && called.equals(name));
                    continue;
                }
                List<String> way = deepest(called, nowOpen);
                best = way.size() > best.size() ? way : best;
            }
            List<String> whole = new ArrayList<>(List.of(name));
            whole.addAll(best);
            return whole;
        }

        private void reach(String name, TreeSet<String> reached) {
            for (String called : calls.getOrDefault(name, new TreeSet<>())) {
                if (reached.add(called)) {
                    reach(called, reached);
                }
            }
        }
    }
}
