import com.sun.source.tree.BinaryTree;
import com.sun.source.tree.CompilationUnitTree;
import com.sun.source.tree.ExpressionStatementTree;
import com.sun.source.tree.IdentifierTree;
import com.sun.source.tree.IfTree;
import com.sun.source.tree.LiteralTree;
import com.sun.source.tree.MethodInvocationTree;
import com.sun.source.tree.MethodTree;
import com.sun.source.tree.Tree;
import com.sun.source.tree.UnaryTree;
import com.sun.source.tree.VariableTree;
import com.sun.source.util.JavacTask;
import com.sun.source.util.SourcePositions;
import com.sun.source.util.TreeScanner;
import com.sun.source.util.Trees;
import java.io.IOException;
import java.io.StringWriter;
import java.nio.file.Files;
import java.nio.file.Path;
import java.util.ArrayList;
import java.util.Comparator;
import java.util.List;
import java.util.Map;
import java.util.concurrent.ExecutorService;
import java.util.concurrent.Executors;
import java.util.concurrent.Future;
import java.util.concurrent.TimeUnit;
import java.util.stream.Stream;
import javax.tools.JavaCompiler;
import javax.tools.StandardJavaFileManager;
import javax.tools.ToolProvider;

/**
 * Which tests would not see it, if the class were a little other than it is: changes it in one
 * place after another, runs the tests named, and prints each change that none of them saw.
 * What is printed is a guard that nothing reaches, or wants a test. No part of .ci/run (some 20 minutes).
 *
 * <pre>java src/test/tools/RaysOfShapesMutants.java RaysOfShapesEdges RaysOfShapesTexts</pre>
 */
public final class RaysOfShapesMutants extends TreeScanner<Void, Void> {
    private static final Path SOURCE = Path.of("src/main/java/RaysOfShapes.java");
    private static final Path TESTS = Path.of("src/test/java");
    private static final int SECONDS = 60;
    private static final Map<Tree.Kind, String[]> OPERATORS = Map.ofEntries(
        Map.entry(Tree.Kind.LESS_THAN, new String[] {"<", "<=", ">="}),
        Map.entry(Tree.Kind.LESS_THAN_EQUAL, new String[] {"<=", "<", ">"}),
        Map.entry(Tree.Kind.GREATER_THAN, new String[] {">", ">=", "<="}),
        Map.entry(Tree.Kind.GREATER_THAN_EQUAL, new String[] {">=", ">", "<"}),
        Map.entry(Tree.Kind.EQUAL_TO, new String[] {"==", "!="}),
        Map.entry(Tree.Kind.NOT_EQUAL_TO, new String[] {"!=", "=="}),
        Map.entry(Tree.Kind.CONDITIONAL_AND, new String[] {"&&", "||"}),
        Map.entry(Tree.Kind.CONDITIONAL_OR, new String[] {"||", "&&"}),
        Map.entry(Tree.Kind.PLUS, new String[] {"+", "-"}),
        Map.entry(Tree.Kind.MINUS, new String[] {"-", "+"}),
        Map.entry(Tree.Kind.MULTIPLY, new String[] {"*", "+"}),
        Map.entry(Tree.Kind.DIVIDE, new String[] {"/", "*"}),
        Map.entry(Tree.Kind.REMAINDER, new String[] {"%", "*"}),
        Map.entry(Tree.Kind.AND, new String[] {"&", "|"}),
        Map.entry(Tree.Kind.OR, new String[] {"|", "&"}),
        Map.entry(Tree.Kind.XOR, new String[] {"^", "|"}),
        Map.entry(Tree.Kind.LEFT_SHIFT, new String[] {"<<", ">>"}),
        Map.entry(Tree.Kind.UNSIGNED_RIGHT_SHIFT, new String[] {">>>", ">>"}));
    private static final Map<String, String> OTHER_NAMES = Map.of("BAD", "STUCK", "STUCK", "BAD", "OTHER", "NOTHING",
        "NOTHING", "OTHER", "FULL", "STUCK");

    private record Change(int from, int to, String text) { }

    private final List<Change> changes = new ArrayList<>();
    private final List<String> parameters = new ArrayList<>();
    private final String source;
    private final CompilationUnitTree unit;
    private final SourcePositions positions;

    private RaysOfShapesMutants(String source, CompilationUnitTree unit, SourcePositions positions) {
        this.source = source;
        this.unit = unit;
        this.positions = positions;
    }

    // ---- what is changed

    private int from(Tree tree) {
        return (int) positions.getStartPosition(unit, tree);
    }

    private int to(Tree tree) {
        return (int) positions.getEndPosition(unit, tree);
    }

    private String textOf(Tree tree) {
        return source.substring(from(tree), to(tree));
    }

    private void change(Tree tree, String text) {
        changes.add(new Change(from(tree), to(tree), text));
    }

    private void oneMoreAndLess(Tree tree) {
        change(tree, "(" + textOf(tree) + " + 1)");
        change(tree, "(" + textOf(tree) + " - 1)");
    }

    @Override
    public Void visitMethod(MethodTree tree, Void v) {
        parameters.clear();
        for (VariableTree parameter : tree.getParameters()) {
            if (parameter.getType().toString().equals("int")) {
                parameters.add(parameter.getName().toString());
            }
        }
        return super.visitMethod(tree, v);
    }

    @Override
    public Void visitLiteral(LiteralTree tree, Void v) {
        switch (tree.getKind()) {
            case INT_LITERAL, LONG_LITERAL, CHAR_LITERAL -> oneMoreAndLess(tree);
            case BOOLEAN_LITERAL -> change(tree, "!" + textOf(tree));
            default -> change(tree, "\"q\"");
        }
        return null;
    }

    @Override
    public Void visitIdentifier(IdentifierTree tree, Void v) {
        String name = tree.getName().toString();
        for (String other : parameters) {
            if (parameters.contains(name) && !other.equals(name)) {
                change(tree, other);
            }
        }
        if (OTHER_NAMES.containsKey(name)) {
            change(tree, OTHER_NAMES.get(name));
        } else if (parameters.contains(name) || name.matches("[A-Z][A-Z_]+")) {
            oneMoreAndLess(tree);
        }
        return null;
    }

    @Override
    public Void visitBinary(BinaryTree tree, Void v) {
        String[] operator = OPERATORS.getOrDefault(tree.getKind(), new String[] {""});
        int from = to(tree.getLeftOperand());
        int to = from(tree.getRightOperand());
        String between = source.substring(from, to);
        for (int i = 1; i < operator.length; i++) {
            changes.add(new Change(from, to, between.replace(operator[0], operator[i])));
        }
        if (tree.getKind() == Tree.Kind.CONDITIONAL_AND || tree.getKind() == Tree.Kind.CONDITIONAL_OR) {
            change(tree, "(" + textOf(tree.getLeftOperand()) + ")");
            change(tree, "(" + textOf(tree.getRightOperand()) + ")");
        }
        return super.visitBinary(tree, v);
    }

    @Override
    public Void visitUnary(UnaryTree tree, Void v) {
        switch (tree.getKind()) {
            case LOGICAL_COMPLEMENT, UNARY_MINUS, BITWISE_COMPLEMENT -> change(tree, textOf(tree).substring(1));
            default -> { }
        }
        return super.visitUnary(tree, v);
    }

    @Override
    public Void visitExpressionStatement(ExpressionStatementTree tree, Void v) {
        change(tree, ";");
        return super.visitExpressionStatement(tree, v);
    }

    @Override
    public Void visitIf(IfTree tree, Void v) {
        change(tree.getCondition(), "(false)");
        change(tree.getCondition(), "(true)");
        return super.visitIf(tree, v);
    }

    @Override
    public Void visitMethodInvocation(MethodInvocationTree tree, Void v) {
        String name = tree.getMethodSelect().toString();
        if (name.equals("Math.max") || name.equals("Math.min")) {
            change(tree.getMethodSelect(), name.equals("Math.max") ? "Math.min" : "Math.max");
        }
        for (int i = 0; i + 1 < tree.getArguments().size(); i++) {
            Tree one = tree.getArguments().get(i);
            Tree other = tree.getArguments().get(i + 1);
            if (!textOf(one).equals(textOf(other))) {
                changes.add(new Change(from(one), to(other), textOf(other) + ", " + textOf(one)));
            }
        }
        return super.visitMethodInvocation(tree, v);
    }

    // ---- whether it is seen

    private String told(Change change) {
        long line = unit.getLineMap().getLineNumber(change.from);
        return "line " + line + ": " + source.substring(change.from, change.to) + "  becomes  " + change.text;
    }

    /** Whether all tests pass with a change; a change that doesn't compile is none. */
    private boolean isUnseen(Change change, Path dir, Path tests, String[] names)
        throws IOException, InterruptedException {
        Files.createDirectories(dir);
        Path file = dir.resolve(SOURCE.getFileName());
        Files.writeString(file, source.substring(0, change.from) + change.text + source.substring(change.to));
        boolean passes = isCompiled(dir, null, file);
        for (int i = 0; i < names.length && passes; i++) {
            Process run = new ProcessBuilder("java", "-XX:TieredStopAtLevel=1", "-XX:+UseSerialGC", "-cp",
                dir + ":" + tests, names[i]).redirectErrorStream(true)
                .redirectOutput(ProcessBuilder.Redirect.DISCARD).start();
            passes = run.waitFor(SECONDS, TimeUnit.SECONDS) && run.exitValue() == 0;
            run.destroyForcibly();
        }
        remove(dir);
        return passes;
    }

    private static boolean isCompiled(Path to, Path classes, Path file) throws IOException {
        JavaCompiler compiler = ToolProvider.getSystemJavaCompiler();
        List<String> options = new ArrayList<>(List.of("-proc:none", "-nowarn", "-d", to.toString()));
        if (classes != null) {
            options.addAll(List.of("-cp", classes.toString()));
        }
        try (StandardJavaFileManager files = compiler.getStandardFileManager(null, null, null)) {
            return compiler.getTask(new StringWriter(), files, d -> { }, options, null, files.getJavaFileObjects(file))
                .call();
        }
    }

    private static void remove(Path dir) throws IOException {
        List<Path> all;
        try (Stream<Path> walk = Files.walk(dir)) {
            all = walk.sorted(Comparator.reverseOrder()).toList();
        }
        for (Path path : all) {
            Files.delete(path);
        }
    }

    private void tryAll(String[] names) throws Exception {
        Path base = Files.createTempDirectory("mutants");
        Path plain = Files.createDirectories(base.resolve("plain"));
        Path tests = Files.createDirectories(base.resolve("tests"));
        isCompiled(plain, null, SOURCE);
        for (String name : names) {
            isCompiled(tests, plain, TESTS.resolve(name + ".java"));
        }
        System.out.println(changes.size() + " changes");
        ExecutorService pool = Executors.newFixedThreadPool(Runtime.getRuntime().availableProcessors());
        List<Future<Boolean>> unseen = new ArrayList<>();
        for (int i = 0; i < changes.size(); i++) {
            Change change = changes.get(i);
            Path dir = base.resolve("m" + i);
            unseen.add(pool.submit(() -> isUnseen(change, dir, tests, names)));
        }
        int many = 0;
        for (int i = 0; i < changes.size(); i++) {
            if (unseen.get(i).get()) {
                many++;
                System.out.println(told(changes.get(i)));
            }
        }
        pool.shutdown();
        remove(base);
        System.out.println(many + " were not seen");
    }

    public static void main(String[] args) throws Exception {
        JavaCompiler compiler = ToolProvider.getSystemJavaCompiler();
        try (StandardJavaFileManager files = compiler.getStandardFileManager(null, null, null)) {
            JavacTask task = (JavacTask) compiler.getTask(null, files, null, List.of("-proc:none"), null,
                files.getJavaFileObjects(SOURCE));
            CompilationUnitTree unit = task.parse().iterator().next();
            RaysOfShapesMutants mutants = new RaysOfShapesMutants(Files.readString(SOURCE), unit,
                Trees.instance(task).getSourcePositions());
            mutants.scan(unit, null);
            mutants.tryAll(args);
        }
    }
}
