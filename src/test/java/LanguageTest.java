import com.sun.source.tree.ArrayTypeTree;
import com.sun.source.tree.AssertTree;
import com.sun.source.tree.BinaryTree;
import com.sun.source.tree.BlockTree;
import com.sun.source.tree.ClassTree;
import com.sun.source.tree.CompilationUnitTree;
import com.sun.source.tree.CompoundAssignmentTree;
import com.sun.source.tree.ExpressionTree;
import com.sun.source.tree.IdentifierTree;
import com.sun.source.tree.ImportTree;
import com.sun.source.tree.InstanceOfTree;
import com.sun.source.tree.LambdaExpressionTree;
import com.sun.source.tree.LineMap;
import com.sun.source.tree.LiteralTree;
import com.sun.source.tree.MemberReferenceTree;
import com.sun.source.tree.MemberSelectTree;
import com.sun.source.tree.MethodInvocationTree;
import com.sun.source.tree.MethodTree;
import com.sun.source.tree.NewArrayTree;
import com.sun.source.tree.NewClassTree;
import com.sun.source.tree.PrimitiveTypeTree;
import com.sun.source.tree.SynchronizedTree;
import com.sun.source.tree.ThrowTree;
import com.sun.source.tree.Tree;
import com.sun.source.tree.TryTree;
import com.sun.source.tree.TypeCastTree;
import com.sun.source.tree.VariableTree;
import com.sun.source.util.JavacTask;
import com.sun.source.util.SourcePositions;
import com.sun.source.util.TreeScanner;
import com.sun.source.util.Trees;
import java.io.IOException;
import java.nio.file.Path;
import java.util.ArrayList;
import java.util.HashMap;
import java.util.HashSet;
import java.util.List;
import java.util.Map;
import java.util.Set;
import javax.lang.model.element.Modifier;
import javax.tools.JavaCompiler;
import javax.tools.StandardJavaFileManager;
import javax.tools.ToolProvider;

/**
 * LANGUAGE.md's rules as far as the class's text shows them. Where the class needs less than a rule leaves (it has
 * no try, no cast, no list, no division), the test asks for that less, which is simpler to see; widen it when more is needed.
 */
public final class LanguageTest {
    private static final Set<String> IMPORTS = Set.of("java.util.Arrays", "java.util.NoSuchElementException");
    private static final Set<String> LIBRARY = Set.of("Arrays.fill", "Arrays.copyOf", "Math.min", "Math.max",
            "word.length", "word.charAt");
    private static final Set<String> EXCEPTIONS = Set.of("IllegalStateException", "IllegalArgumentException",
            "IndexOutOfBoundsException", "ArithmeticException", "UnsupportedOperationException",
            "NoSuchElementException", "RuntimeException");
    private static final int MOST_PARAMETERS = 7;
    private static final int MOST_LINES = 60;
    private static final int MOST_DEPTH = 8;
    private static final int MOST_CLASSES = 12;
    private static final int MOST_FIELDS = 20;

    private final CompilationUnitTree unit;
    private final SourcePositions places;
    private final Set<String> ownTypes = new HashSet<>();
    /** By a method's name, the names of the methods of the file that it calls. */
    private final Map<String, Set<String>> callsOf = new HashMap<>();
    private final List<MethodTree> methods = new ArrayList<>();

    private LanguageTest(CompilationUnitTree unit, SourcePositions places) {
        this.unit = unit;
        this.places = places;
    }

    public static void main(String[] args) throws IOException {
        Path source = Path.of("src/main/java/YamRiders.java");
        JavaCompiler compiler = ToolProvider.getSystemJavaCompiler();
        try (StandardJavaFileManager files = compiler.getStandardFileManager(null, null, null)) {
            JavacTask task = (JavacTask) compiler.getTask(null, files, null, null, null,
                    files.getJavaFileObjects(source));
            CompilationUnitTree unit = task.parse().iterator().next();
            new LanguageTest(unit, Trees.instance(task).getSourcePositions()).checkAll();
        }
        Check.finish();
    }

    private void checkAll() {
        Check.yes("no package line", unit.getPackage() == null);
        for (ImportTree line : unit.getImports()) {
            Check.yes(line + " is listed", IMPORTS.contains(line.getQualifiedIdentifier().toString()));
            Check.no(line + " is static", line.isStatic());
        }
        Check.due("classes of the file's own level", unit.getTypeDecls().size(), 1);
        new Collector().scan(unit, null);
        new Forms().scan(unit, null);
        namesAreUsedOnce();
        callsAreNotDeep();
    }

    private String at(Tree tree) {
        LineMap lines = unit.getLineMap();
        return "line " + lines.getLineNumber(places.getStartPosition(unit, tree));
    }

    private long linesOf(Tree tree) {
        LineMap lines = unit.getLineMap();
        return lines.getLineNumber(places.getEndPosition(unit, tree))
                - lines.getLineNumber(places.getStartPosition(unit, tree)) + 1;
    }

    /** The graph of calls goes by names, so no two methods may share one; this also is rule 1 for private ones. */
    private void namesAreUsedOnce() {
        Set<String> names = new HashSet<>();
        for (MethodTree method : methods) {
            Check.yes(method.getName() + " is used once", names.add(method.getName().toString()));
        }
    }

    private void callsAreNotDeep() {
        for (MethodTree method : methods) {
            String name = method.getName().toString();
            int depth = depthOf(name, 1);
            Check.yes(name + " goes " + depth + " deep", depth <= MOST_DEPTH);
        }
    }

    private int depthOf(String name, int depth) {
        if (depth > MOST_DEPTH) {
            return depth;
        }
        int deepest = depth;
        for (String called : callsOf.getOrDefault(name, Set.of())) {
            deepest = Math.max(deepest, depthOf(called, depth + 1));
        }
        return deepest;
    }

    /** Which types and methods are the file's own, and rules 1, 2, 5 and 11 on how they are declared. */
    private final class Collector extends TreeScanner<Void, Void> {
        private int classes;

        @Override
        public Void visitCompilationUnit(CompilationUnitTree node, Void none) {
            super.visitCompilationUnit(node, none);
            Check.yes(classes + " classes", classes <= MOST_CLASSES);
            return null;
        }

        @Override
        public Void visitClass(ClassTree node, Void none) {
            classes++;
            ownTypes.add(node.getSimpleName().toString());
            Set<Modifier> flags = node.getModifiers().getFlags();
            boolean isFace = node.getSimpleName().contentEquals("YamRiders");
            Check.yes(at(node) + ": static or the face", isFace || flags.contains(Modifier.STATIC));
            Check.yes(at(node) + ": private or the face", isFace || flags.contains(Modifier.PRIVATE));
            int fields = 0;
            for (Tree member : node.getMembers()) {
                if (member instanceof VariableTree && !isStatic((VariableTree) member)) {
                    fields++;
                }
                if (member instanceof VariableTree && isStatic((VariableTree) member)) {
                    constantIsPlain((VariableTree) member);
                }
                Check.no(at(member) + ": initialiser block", member instanceof BlockTree);
            }
            Check.yes(at(node) + ": " + fields + " fields", fields <= MOST_FIELDS);
            return super.visitClass(node, none);
        }

        private boolean isStatic(VariableTree field) {
            return field.getModifiers().getFlags().contains(Modifier.STATIC);
        }

        private void constantIsPlain(VariableTree field) {
            Check.yes(at(field) + ": final", field.getModifiers().getFlags().contains(Modifier.FINAL));
            Check.yes(at(field) + ": an int", field.getType().toString().equals("int"));
        }

        @Override
        public Void visitMethod(MethodTree node, Void none) {
            if (!node.getName().contentEquals("<init>")) {
                methods.add(node);
            }
            int parameters = node.getParameters().size();
            Check.yes(at(node) + ": " + parameters + " parameters", parameters <= MOST_PARAMETERS);
            Check.yes(at(node) + ": " + linesOf(node) + " lines", linesOf(node) <= MOST_LINES);
            return super.visitMethod(node, none);
        }
    }

    /** Rules 2, 3, 4, 6 and 7: what stands inside the methods. */
    private final class Forms extends TreeScanner<Void, Void> {
        private String inside = "";

        @Override
        public Void visitMethod(MethodTree node, Void none) {
            inside = node.getName().toString();
            super.visitMethod(node, none);
            inside = "";
            return null;
        }

        @Override
        public Void visitVariable(VariableTree node, Void none) {
            Check.yes(at(node) + ": type " + node.getType(), isListed(node.getType(), 0));
            return super.visitVariable(node, none);
        }

        private boolean isListed(Tree type, int dimensions) {
            if (type instanceof ArrayTypeTree) {
                return isListed(((ArrayTypeTree) type).getType(), dimensions + 1);
            }
            if (type instanceof PrimitiveTypeTree) {
                return type.toString().equals("int") && dimensions <= 2
                        || type.toString().equals("boolean") && dimensions <= 1;
            }
            return dimensions <= 1 && ownTypes.contains(type.toString())
                    || dimensions == 0 && type.toString().equals("String");
        }

        @Override
        public Void visitMethodInvocation(MethodInvocationTree node, Void none) {
            ExpressionTree called = node.getMethodSelect();
            String name = called instanceof MemberSelectTree
                    ? ((MemberSelectTree) called).getIdentifier().toString() : called.toString();
            boolean isOwn = methods.stream().anyMatch(method -> method.getName().contentEquals(name));
            if (LIBRARY.contains(called.toString())) {
                Check.no(called + " by an own one's name", isOwn);
            } else if (!called.toString().equals("super")) {
                Check.yes(at(node) + ": calls " + called, isOwn);
                callsOf.computeIfAbsent(inside, key -> new HashSet<>()).add(name);
            }
            return super.visitMethodInvocation(node, none);
        }

        @Override
        public Void visitNewClass(NewClassTree node, Void none) {
            Check.yes(at(node) + ": no body", node.getClassBody() == null);
            Check.yes(at(node) + ": new " + node.getIdentifier(), ownTypes.contains(node.getIdentifier().toString())
                    || EXCEPTIONS.contains(node.getIdentifier().toString()));
            return super.visitNewClass(node, none);
        }

        /** The document names this exception alone, and the two calls that throw it. */
        @Override
        public Void visitThrow(ThrowTree node, Void none) {
            Check.yes(at(node) + ": in rider or steed", inside.equals("rider") || inside.equals("steed"));
            Check.yes(at(node) + ": throw new", node.getExpression() instanceof NewClassTree);
            if (node.getExpression() instanceof NewClassTree) {
                NewClassTree made = (NewClassTree) node.getExpression();
                Check.yes(at(node) + ": the document's", made.getIdentifier() instanceof IdentifierTree
                        && made.getIdentifier().toString().equals("NoSuchElementException"));
                boolean isWritten = made.getArguments().isEmpty() || made.getArguments().size() == 1
                        && made.getArguments().get(0) instanceof LiteralTree;
                Check.yes(at(node) + ": a written text", isWritten);
            }
            return super.visitThrow(node, none);
        }

        /** A length that is a constant needs no test before the array is made. */
        @Override
        public Void visitNewArray(NewArrayTree node, Void none) {
            for (ExpressionTree length : node.getDimensions()) {
                Check.yes(at(node) + ": " + length + " is a constant", length.toString().matches("(\\w+\\.)?[A-Z_]+"));
            }
            return super.visitNewArray(node, none);
        }

        @Override
        public Void visitBinary(BinaryTree node, Void none) {
            boolean divides = node.getKind() == Tree.Kind.DIVIDE || node.getKind() == Tree.Kind.REMAINDER;
            return divides ? refused(node) : super.visitBinary(node, none);
        }

        @Override
        public Void visitCompoundAssignment(CompoundAssignmentTree node, Void none) {
            boolean divides = node.getKind() == Tree.Kind.DIVIDE_ASSIGNMENT
                    || node.getKind() == Tree.Kind.REMAINDER_ASSIGNMENT;
            return divides ? refused(node) : super.visitCompoundAssignment(node, none);
        }

        @Override
        public Void visitTry(TryTree node, Void none) {
            return refused(node);
        }

        @Override
        public Void visitLambdaExpression(LambdaExpressionTree node, Void none) {
            return refused(node);
        }

        @Override
        public Void visitMemberReference(MemberReferenceTree node, Void none) {
            return refused(node);
        }

        @Override
        public Void visitSynchronized(SynchronizedTree node, Void none) {
            return refused(node);
        }

        @Override
        public Void visitAssert(AssertTree node, Void none) {
            return refused(node);
        }

        @Override
        public Void visitTypeCast(TypeCastTree node, Void none) {
            return refused(node);
        }

        @Override
        public Void visitInstanceOf(InstanceOfTree node, Void none) {
            return refused(node);
        }

        private Void refused(Tree node) {
            Check.no(at(node) + ": " + node.getKind(), true);
            return null;
        }
    }
}
