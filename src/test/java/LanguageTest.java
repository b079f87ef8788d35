import com.sun.source.tree.AssertTree;
import com.sun.source.tree.BlockTree;
import com.sun.source.tree.ClassTree;
import com.sun.source.tree.CompilationUnitTree;
import com.sun.source.tree.ExpressionTree;
import com.sun.source.tree.IdentifierTree;
import com.sun.source.tree.ImportTree;
import com.sun.source.tree.LambdaExpressionTree;
import com.sun.source.tree.LiteralTree;
import com.sun.source.tree.MemberReferenceTree;
import com.sun.source.tree.MemberSelectTree;
import com.sun.source.tree.MethodInvocationTree;
import com.sun.source.tree.MethodTree;
import com.sun.source.tree.NewClassTree;
import com.sun.source.tree.SynchronizedTree;
import com.sun.source.tree.ThrowTree;
import com.sun.source.tree.Tree;
import com.sun.source.tree.TryTree;
import com.sun.source.tree.VariableTree;
import com.sun.source.util.JavacTask;
import com.sun.source.util.TreeScanner;
import com.sun.source.util.Trees;
import java.nio.file.Path;
import java.util.List;
import java.util.Set;
import java.util.TreeSet;
import javax.lang.model.element.Modifier;
import javax.tools.JavaCompiler;
import javax.tools.StandardJavaFileManager;
import javax.tools.ToolProvider;

/** What of LANGUAGE.md can be read off the class's text, and that no answer is made by catching. */
public final class LanguageTest extends Checks {
    private static final Set<String> IMPORTS = Set.of("java.util.Arrays", "java.util.ArrayList", "java.util.List",
            "java.util.Iterator", "java.util.NoSuchElementException");
    private static final Set<String> EXCEPTIONS = Set.of("IllegalStateException", "IllegalArgumentException",
            "IndexOutOfBoundsException", "ArithmeticException", "UnsupportedOperationException",
            "NoSuchElementException", "RuntimeException");
    private static final Set<String> TYPES = Set.of("int", "long", "short", "byte", "char", "boolean", "String",
            "StringBuilder", "Integer");
    private static final Set<String> LIBRARY = Set.of("System.arraycopy", "Arrays.fill", "Arrays.copyOf",
            "Arrays.copyOfRange", "Math.max", "Math.min", "Math.abs", "Math.floorDiv", "Math.floorMod",
            "Integer.compare", "Integer.bitCount", "Long.compare");
    private static final int MOST_CLASSES = 12;
    private static final int MOST_PARAMETERS = 7;
    private static final int MOST_LINES = 60;

    private static void holds(boolean so, String what) {
        is("so: " + what, (so ? "so: " : "not so: ") + what);
    }

    private static final class Reader extends TreeScanner<Void, Void> {
        private final CompilationUnitTree unit;
        private final Trees trees;
        private final Set<String> classes = new TreeSet<>();
        private final Set<String> methods = new TreeSet<>();
        private String method = "";

        private Reader(CompilationUnitTree unit, Trees trees) {
            this.unit = unit;
            this.trees = trees;
            for (Tree outer : unit.getTypeDecls()) {
                collect((ClassTree) outer);
            }
        }

        private void collect(ClassTree c) {
            classes.add(c.getSimpleName().toString());
            for (Tree member : c.getMembers()) {
                if (member instanceof ClassTree inside) {
                    collect(inside);
                } else if (member instanceof MethodTree m) {
                    methods.add(m.getName().toString());
                }
            }
        }

        private int linesOf(Tree tree) {
            long start = trees.getSourcePositions().getStartPosition(unit, tree);
            long end = trees.getSourcePositions().getEndPosition(unit, tree);
            return (int) (unit.getLineMap().getLineNumber(end) - unit.getLineMap().getLineNumber(start) + 1);
        }

        @Override
        public Void visitImport(ImportTree tree, Void v) {
            String name = tree.getQualifiedIdentifier().toString();
            holds(!tree.isStatic() && IMPORTS.contains(name), "rule 4 lists " + name);
            return null;
        }

        @Override
        public Void visitClass(ClassTree tree, Void v) {
            for (Tree member : tree.getMembers()) {
                holds(!(member instanceof BlockTree), "rule 5: no initialiser block in " + tree.getSimpleName());
            }
            return super.visitClass(tree, v);
        }

        @Override
        public Void visitMethod(MethodTree tree, Void v) {
            String name = tree.getName().toString();
            method = name;
            holds(tree.getParameters().size() <= MOST_PARAMETERS, "rule 11: parameters of " + name);
            holds(linesOf(tree) <= MOST_LINES, "rule 11: lines of " + name);
            holds(!Set.of("equals", "hashCode", "toString", "finalize").contains(name), "rule 6: no " + name);
            return super.visitMethod(tree, v);
        }

        @Override
        public Void visitVariable(VariableTree tree, Void v) {
            String type = String.valueOf(tree.getType()).replace("[]", "");
            holds(TYPES.contains(type) || classes.contains(type), "rule 3: type of " + tree.getName() + " in " + method);
            boolean isStatic = tree.getModifiers().getFlags().contains(Modifier.STATIC);
            holds(!isStatic || tree.getModifiers().getFlags().contains(Modifier.FINAL), "rule 5: final " + tree.getName());
            return super.visitVariable(tree, v);
        }

        @Override
        public Void visitMethodInvocation(MethodInvocationTree tree, Void v) {
            ExpressionTree called = tree.getMethodSelect();
            if (called instanceof MemberSelectTree select) {
                String name = select.getIdentifier().toString();
                boolean own = methods.contains(name) && !LIBRARY.contains(called.toString());
                holds(own || LIBRARY.contains(called.toString()), "rule 4 lists " + called);
            } else if (called instanceof IdentifierTree plain) {
                String name = plain.getName().toString();
                holds(methods.contains(name) || name.equals("super"), "own method " + name);
            }
            return super.visitMethodInvocation(tree, v);
        }

        @Override
        public Void visitThrow(ThrowTree tree, Void v) {
            boolean plain = tree.getExpression() instanceof NewClassTree made
                    && EXCEPTIONS.contains(made.getIdentifier().toString())
                    && (made.getArguments().isEmpty() || made.getArguments().get(0) instanceof LiteralTree);
            holds(plain, "rule 6: " + tree + " in " + method);
            holds(!method.equals("<init>"), "rule 6: no throw in a constructor");
            return super.visitThrow(tree, v);
        }

        @Override
        public Void visitTry(TryTree tree, Void v) {
            holds(false, "nothing is caught in " + method);
            return super.visitTry(tree, v);
        }

        @Override
        public Void visitLambdaExpression(LambdaExpressionTree tree, Void v) {
            holds(false, "rule 2: no lambda in " + method);
            return super.visitLambdaExpression(tree, v);
        }

        @Override
        public Void visitMemberReference(MemberReferenceTree tree, Void v) {
            holds(false, "rule 2: no method reference in " + method);
            return super.visitMemberReference(tree, v);
        }

        @Override
        public Void visitSynchronized(SynchronizedTree tree, Void v) {
            holds(false, "rule 6: no synchronized in " + method);
            return super.visitSynchronized(tree, v);
        }

        @Override
        public Void visitAssert(AssertTree tree, Void v) {
            holds(false, "rule 6: no assert in " + method);
            return super.visitAssert(tree, v);
        }
    }

    private static void read() {
        try {
            JavaCompiler compiler = ToolProvider.getSystemJavaCompiler();
            try (StandardJavaFileManager files = compiler.getStandardFileManager(null, null, null)) {
                var sources = files.getJavaFileObjects(Path.of("src/main/java/OwnerRows.java"));
                JavacTask task = (JavacTask) compiler.getTask(null, files, null, List.of(), null, sources);
                CompilationUnitTree unit = task.parse().iterator().next();
                Reader reader = new Reader(unit, Trees.instance(task));
                holds(unit.getPackage() == null, "no package line");
                holds(unit.getTypeDecls().size() == 1, "one class in the file");
                holds(reader.classes.size() <= MOST_CLASSES, "rule 11: classes of the file");
                reader.scan(unit, null);
            }
        } catch (java.io.IOException e) {
            report("the class's text can't be read: " + e);
        }
    }

    public static void main(String[] args) {
        part("LANGUAGE.md", LanguageTest::read);
        end();
    }
}
