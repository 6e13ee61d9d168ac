import com.sun.source.tree.BinaryTree;
import com.sun.source.tree.ClassTree;
import com.sun.source.tree.CompilationUnitTree;
import com.sun.source.tree.DoWhileLoopTree;
import com.sun.source.tree.EnhancedForLoopTree;
import com.sun.source.tree.ExpressionTree;
import com.sun.source.tree.ForLoopTree;
import com.sun.source.tree.ImportTree;
import com.sun.source.tree.LambdaExpressionTree;
import com.sun.source.tree.LiteralTree;
import com.sun.source.tree.MemberReferenceTree;
import com.sun.source.tree.MethodInvocationTree;
import com.sun.source.tree.MethodTree;
import com.sun.source.tree.NewArrayTree;
import com.sun.source.tree.NewClassTree;
import com.sun.source.tree.PrimitiveTypeTree;
import com.sun.source.tree.SynchronizedTree;
import com.sun.source.tree.ThrowTree;
import com.sun.source.tree.Tree;
import com.sun.source.tree.TryTree;
import com.sun.source.tree.TypeCastTree;
import com.sun.source.tree.VariableTree;
import com.sun.source.tree.WhileLoopTree;
import com.sun.source.util.JavacTask;
import com.sun.source.util.TreePathScanner;
import com.sun.source.util.Trees;
import java.io.IOException;
import java.nio.charset.StandardCharsets;
import java.nio.file.Files;
import java.nio.file.Path;
import java.util.ArrayList;
import java.util.HashMap;
import java.util.List;
import java.util.Map;
import java.util.Set;
import java.util.TreeMap;
import java.util.TreeSet;
import javax.lang.model.element.Element;
import javax.lang.model.element.ElementKind;
import javax.lang.model.element.ExecutableElement;
import javax.lang.model.element.Modifier;
import javax.lang.model.element.TypeElement;
import javax.lang.model.type.TypeMirror;
import javax.tools.JavaCompiler;
import javax.tools.StandardJavaFileManager;
import javax.tools.ToolProvider;

/**
 * The rules of LANGUAGE.md, by their numbers, as the compiler reads the program. Where the program
 * needs less than a rule leaves, the test asks for less: no try, no while, no list, no recursion.
 */
public final class RulesTest {
    private static final String SOURCE = "src/main/java/StampedSlots.java";
    private static final Set<String> LIBRARY = Set.of("System.arraycopy", "Math.max", "Math.min");
    private static final Set<String> THROWN = Set.of("IllegalStateException", "IllegalArgumentException",
            "IndexOutOfBoundsException");
    private static final Set<String> SIMPLE = Set.of("int", "long", "boolean", "double", "int[]");

    /** Divisors that are tested before; all others are constants. */
    private static final Set<String> DIVISORS = Set.of("StampedSlots.room by size", "StampedSlots.fullness by (double)cells");

    private static int wrong = 0;

    private static void broken(int rule, String what) {
        wrong++;
        System.out.println("rule " + rule + ": " + what);
    }

    private static void hold(int rule, boolean holds, String what) {
        if (!holds) {
            broken(rule, what);
        }
    }

    /** Walks through the program once, and keeps who calls whom. */
    private static final class Reader extends TreePathScanner<Void, Void> {
        private final Trees trees;
        private final CompilationUnitTree unit;
        private final Map<String, Set<String>> calls = new TreeMap<>();
        private final Set<String> own = new TreeSet<>();
        private final List<String> throwers = new ArrayList<>();
        private int classes = 0;
        private String method = null;
        private boolean isConstructor = false;

        Reader(Trees trees, CompilationUnitTree unit) {
            this.trees = trees;
            this.unit = unit;
        }

        private Element here() {
            return trees.getElement(getCurrentPath());
        }

        private static String nameOf(Element e) {
            return e.getEnclosingElement().getSimpleName() + "." + e.getSimpleName();
        }

        private long line(Tree tree, boolean atEnd) {
            long at = atEnd ? trees.getSourcePositions().getEndPosition(unit, tree)
                    : trees.getSourcePositions().getStartPosition(unit, tree);
            return unit.getLineMap().getLineNumber(at);
        }

        private boolean isOwnType(String type) {
            String plain = type.endsWith("[]") ? type.substring(0, type.length() - 2) : type;
            return plain.equals("StampedSlots") || plain.startsWith("StampedSlots.");
        }

        private void type(TypeMirror type, String where) {
            String name = type.toString();
            hold(3, SIMPLE.contains(name) || isOwnType(name), where + " is of type " + name);
        }

        @Override
        public Void visitImport(ImportTree tree, Void none) {
            broken(4, "an import");
            return super.visitImport(tree, none);
        }

        @Override
        public Void visitClass(ClassTree tree, Void none) {
            classes++;
            TypeElement c = (TypeElement) here();
            boolean isInside = c.getEnclosingElement().getKind() == ElementKind.CLASS;
            hold(2, c.getKind() == ElementKind.CLASS, c + " is no plain class");
            hold(2, !isInside || c.getModifiers().contains(Modifier.STATIC), c + " is not static");
            hold(1, !isInside || !c.getModifiers().contains(Modifier.PUBLIC), c + " is public");
            int fields = 0;
            for (Element e : c.getEnclosedElements()) {
                if (e.getKind() == ElementKind.FIELD && !e.getModifiers().contains(Modifier.STATIC)) {
                    fields++;
                }
            }
            hold(11, fields <= 20, c + " has " + fields + " fields");
            hold(2, method == null, c + " is inside a method");
            for (Tree member : tree.getMembers()) {
                hold(5, member.getKind() != Tree.Kind.BLOCK, "an initialiser block in " + c);
            }
            return super.visitClass(tree, none);
        }

        @Override
        public Void visitVariable(VariableTree tree, Void none) {
            Element e = here();
            type(e.asType(), e + " in line " + line(tree, false));
            if (e.getKind() == ElementKind.FIELD && e.getModifiers().contains(Modifier.STATIC)) {
                hold(5, e.getModifiers().contains(Modifier.FINAL), e + " is not final");
                hold(5, e.asType().toString().equals("int"), e + " is no constant of int");
            }
            return super.visitVariable(tree, none);
        }

        @Override
        public Void visitMethod(MethodTree tree, Void none) {
            ExecutableElement e = (ExecutableElement) here();
            method = nameOf(e);
            isConstructor = e.getKind() == ElementKind.CONSTRUCTOR;
            hold(11, own.add(method), "two methods are named " + method);
            calls.put(method, new TreeSet<>());
            hold(11, e.getParameters().size() <= 7, method + " takes more than seven parameters");
            long lines = line(tree, true) - line(tree, false) + 1;
            hold(11, lines <= 60, method + " has " + lines + " lines");
            if (!isConstructor && !e.getReturnType().toString().equals("void")) {
                type(e.getReturnType(), "what " + method + " returns");
            }
            boolean isFace = e.getModifiers().contains(Modifier.PUBLIC);
            hold(6, isFace || e.getThrownTypes().isEmpty(), method + " throws");
            super.visitMethod(tree, none);
            method = null;
            isConstructor = false;
            return null;
        }

        @Override
        public Void visitMethodInvocation(MethodInvocationTree tree, Void none) {
            Element e = here();
            String name = nameOf(e);
            boolean isOwn = isOwnType(e.getEnclosingElement().toString());
            boolean isSuper = name.equals("Object.<init>");
            hold(4, isOwn || isSuper || LIBRARY.contains(name), name + " is no library that is left");
            if (!isSuper && method != null) {
                calls.get(method).add(name);
                hold(12, !isConstructor || !isOwn, "the constructor " + method + " calls " + name);
            }
            return super.visitMethodInvocation(tree, none);
        }

        @Override
        public Void visitNewClass(NewClassTree tree, Void none) {
            Element made = here().getEnclosingElement();
            boolean isThrown = getCurrentPath().getParentPath().getLeaf() instanceof ThrowTree;
            hold(12, isThrown || isConstructor, method + " makes a " + made.getSimpleName());
            if (isThrown) {
                hold(6, THROWN.contains(made.getSimpleName().toString()), method + " throws a " + made);
                hold(6, tree.getArguments().size() == 1 && tree.getArguments().get(0) instanceof LiteralTree,
                        method + " throws without a written text");
            } else if (method != null) {
                calls.get(method).add(made.getSimpleName() + ".<init>");
            }
            hold(2, tree.getClassBody() == null, "an anonymous class in " + method);
            return super.visitNewClass(tree, none);
        }

        @Override
        public Void visitNewArray(NewArrayTree tree, Void none) {
            hold(12, isConstructor, method + " makes an array");
            hold(7, tree.getDimensions().size() == 1, "an array in " + method + " has no plain length");
            for (ExpressionTree length : tree.getDimensions()) {
                hold(7, length.toString().matches("[A-Z_]+"), "an array's length in " + method + " is no constant");
            }
            return super.visitNewArray(tree, none);
        }

        @Override
        public Void visitBinary(BinaryTree tree, Void none) {
            boolean divides = tree.getKind() == Tree.Kind.DIVIDE || tree.getKind() == Tree.Kind.REMAINDER;
            String divisor = method + " by " + tree.getRightOperand();
            hold(7, !divides || divisor.endsWith(" by STAMPS") || DIVISORS.contains(divisor), "a divisor in " + divisor);
            return super.visitBinary(tree, none);
        }

        @Override
        public Void visitTypeCast(TypeCastTree tree, Void none) {
            hold(6, tree.getType() instanceof PrimitiveTypeTree, "a cast in " + method + " to " + tree.getType());
            return super.visitTypeCast(tree, none);
        }

        @Override
        public Void visitThrow(ThrowTree tree, Void none) {
            throwers.add(method);
            hold(6, !isConstructor, "the constructor " + method + " throws");
            hold(6, tree.getExpression() instanceof NewClassTree, method + " throws what is not new");
            return super.visitThrow(tree, none);
        }

        @Override
        public Void visitForLoop(ForLoopTree tree, Void none) {
            hold(9, tree.getInitializer().size() == 1, "a loop without one counter in " + method);
            hold(9, tree.getUpdate().size() == 1, "a loop without one step in " + method);
            String counter = ((VariableTree) tree.getInitializer().get(0)).getName().toString();
            hold(9, tree.getUpdate().get(0).toString().matches(counter + "\\+\\+;?"), "a loop's step in " + method);
            String test = String.valueOf(tree.getCondition());
            hold(9, test.matches(counter + " <=? .*"), "a loop in " + method + " has no bound for its counter first");
            hold(9, !tree.getStatement().toString().matches("(?s).*\\b" + counter + " = .*|.*\\b" + counter + "(\\+\\+|--).*"),
                    "a loop in " + method + " sets its counter");
            return super.visitForLoop(tree, none);
        }

        @Override
        public Void visitWhileLoop(WhileLoopTree tree, Void none) {
            broken(9, "while in " + method);
            return super.visitWhileLoop(tree, none);
        }

        @Override
        public Void visitDoWhileLoop(DoWhileLoopTree tree, Void none) {
            broken(9, "do in " + method);
            return super.visitDoWhileLoop(tree, none);
        }

        @Override
        public Void visitEnhancedForLoop(EnhancedForLoopTree tree, Void none) {
            broken(9, "for over something in " + method);
            return super.visitEnhancedForLoop(tree, none);
        }

        @Override
        public Void visitTry(TryTree tree, Void none) {
            broken(6, "try in " + method);
            return super.visitTry(tree, none);
        }

        @Override
        public Void visitSynchronized(SynchronizedTree tree, Void none) {
            broken(6, "synchronized in " + method);
            return super.visitSynchronized(tree, none);
        }

        @Override
        public Void visitLambdaExpression(LambdaExpressionTree tree, Void none) {
            broken(2, "a lambda in " + method);
            return super.visitLambdaExpression(tree, none);
        }

        @Override
        public Void visitMemberReference(MemberReferenceTree tree, Void none) {
            broken(2, "a method reference in " + method);
            return super.visitMemberReference(tree, none);
        }

        /** The longest chain of calls that begins with a method, itself and the library's counted. */
        private int depth(String name, Map<String, Integer> known, List<String> open) {
            if (known.containsKey(name)) {
                return known.get(name);
            }
            if (open.contains(name)) {
                broken(8, name + " calls itself, by " + open);
                return 1;
            }
            open.add(name);
            int deepest = 0;
            for (String called : calls.getOrDefault(name, Set.of())) {
                deepest = Math.max(deepest, depth(called, known, open));
            }
            open.remove(name);
            known.put(name, deepest + 1);
            return deepest + 1;
        }

        void whole() {
            hold(11, classes <= 12, "there are " + classes + " classes");
            Map<String, Integer> known = new HashMap<>();
            for (String name : own) {
                int depth = depth(name, known, new ArrayList<>());
                hold(11, depth <= 8, "calls from " + name + " go " + depth + " deep");
            }
            for (String name : throwers) {
                hold(6, name.matches("StampedSlots\\.\\w+"), name + " throws");
            }
            hold(0, own.size() > 60 && classes == 6 && throwers.size() > 20, "the program is not read as it stands");
        }
    }

    private static Reader read() throws IOException {
        JavaCompiler compiler = ToolProvider.getSystemJavaCompiler();
        try (StandardJavaFileManager files = compiler.getStandardFileManager(null, null, StandardCharsets.US_ASCII)) {
            JavacTask task = (JavacTask) compiler.getTask(null, files, null, List.of("-proc:none"), null,
                    files.getJavaFileObjects(Path.of(SOURCE)));
            CompilationUnitTree unit = task.parse().iterator().next();
            task.analyze();
            hold(1, unit.getPackageName() == null, "there is a package line");
            hold(1, unit.getTypeDecls().size() == 1, "there is more than one class in the file");
            Reader reader = new Reader(Trees.instance(task), unit);
            reader.scan(unit, null);
            return reader;
        }
    }

    private static void signs() throws IOException {
        String text = Files.readString(Path.of(SOURCE));
        for (int i = 0; i < text.length(); i++) {
            char sign = text.charAt(i);
            hold(4, sign == '\n' || (sign >= 32 && sign < 127), "the sign " + (int) sign + " at " + i);
        }
    }

    public static void main(String[] args) throws IOException {
        signs();
        read().whole();
        System.out.println(wrong == 0 ? "RulesTest: the program keeps to the rules" : wrong + " are broken");
        if (wrong != 0) {
            System.exit(1);
        }
    }
}
