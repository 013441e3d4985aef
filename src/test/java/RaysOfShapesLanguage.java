import com.sun.source.tree.AnnotationTree;
import com.sun.source.tree.BinaryTree;
import com.sun.source.tree.ClassTree;
import com.sun.source.tree.CompilationUnitTree;
import com.sun.source.tree.CompoundAssignmentTree;
import com.sun.source.tree.IdentifierTree;
import com.sun.source.tree.MemberSelectTree;
import com.sun.source.tree.MethodInvocationTree;
import com.sun.source.tree.MethodTree;
import com.sun.source.tree.NewClassTree;
import com.sun.source.tree.Tree;
import com.sun.source.tree.VariableTree;
import com.sun.source.util.JavacTask;
import com.sun.source.util.TreePath;
import com.sun.source.util.TreePathScanner;
import com.sun.source.util.Trees;
import java.io.IOException;
import java.nio.file.Files;
import java.nio.file.Path;
import java.util.ArrayDeque;
import java.util.ArrayList;
import java.util.Deque;
import java.util.HashMap;
import java.util.HashSet;
import java.util.LinkedHashMap;
import java.util.LinkedHashSet;
import java.util.List;
import java.util.Map;
import java.util.Set;
import java.util.TreeSet;
import java.util.regex.Matcher;
import java.util.regex.Pattern;
import javax.lang.model.element.Element;
import javax.lang.model.element.ElementKind;
import javax.lang.model.element.ExecutableElement;
import javax.lang.model.element.Modifier;
import javax.lang.model.element.TypeElement;
import javax.lang.model.type.TypeKind;
import javax.lang.model.type.TypeMirror;
import javax.tools.JavaCompiler;
import javax.tools.StandardJavaFileManager;
import javax.tools.ToolProvider;

/** Holds the source to the rules of LANGUAGE.md that can be seen in its trees, and to the document's face. */
public final class RaysOfShapesLanguage extends TreePathScanner<Void, Void> {
    private static final Path SOURCE = Path.of("src/main/java/RaysOfShapes.java");
    private static final Path DOCUMENT = Path.of("../shared/DOC.md");

    private static final Set<Tree.Kind> FORBIDDEN = Set.of(Tree.Kind.LAMBDA_EXPRESSION, Tree.Kind.MEMBER_REFERENCE,
        Tree.Kind.THROW, Tree.Kind.TRY, Tree.Kind.CATCH, Tree.Kind.SYNCHRONIZED, Tree.Kind.ASSERT,
        Tree.Kind.ANNOTATION, Tree.Kind.IMPORT, Tree.Kind.PACKAGE, Tree.Kind.WHILE_LOOP, Tree.Kind.DO_WHILE_LOOP);
    private static final Set<String> LIBRARY = Set.of("java.lang.Math.max", "java.lang.Math.min",
        "java.lang.Math.abs", "java.lang.Math.floorMod", "java.lang.Long.bitCount", "java.lang.String.length",
        "java.lang.String.charAt", "java.lang.System.arraycopy", "java.lang.Object.<init>");
    private static final Set<String> TYPES = Set.of("int", "long", "boolean", "int[]", "long[]",
        "java.lang.String");

    private final Set<String> broken = new LinkedHashSet<>();
    private final Map<ExecutableElement, Set<ExecutableElement>> calls = new LinkedHashMap<>();
    private final Set<String> publicNames = new HashSet<>();
    private final Trees trees;
    private final CompilationUnitTree unit;
    private final TypeElement program;
    private int classes = 0;

    private RaysOfShapesLanguage(Trees trees, CompilationUnitTree unit, TypeElement program) {
        this.trees = trees;
        this.unit = unit;
        this.program = program;
        for (Element e : program.getEnclosedElements()) {
            if (e.getModifiers().contains(Modifier.PUBLIC)) {
                publicNames.add(e.getSimpleName().toString());
            }
        }
    }

    private void breaks(int rule, Tree where, String what) {
        long at = where == null ? 0 : trees.getSourcePositions().getStartPosition(unit, where);
        broken.add("rule " + rule + ", line " + unit.getLineMap().getLineNumber(Math.max(at, 0)) + ": " + what);
    }

    @Override
    public Void scan(Tree tree, Void v) {
        if (tree != null && FORBIDDEN.contains(tree.getKind())) {
            breaks(6, tree, tree.getKind().toString());
        }
        return super.scan(tree, v);
    }

    @Override
    public Void visitClass(ClassTree tree, Void v) {
        classes++;
        TypeElement type = (TypeElement) trees.getElement(getCurrentPath());
        boolean isOuter = type.equals(program);
        if (!isOuter && (!type.getEnclosingElement().equals(program) || type.getModifiers().contains(Modifier.PUBLIC)
            || !type.getModifiers().contains(Modifier.STATIC))) {
            breaks(2, tree, "class " + tree.getSimpleName());
        }
        int fields = 0;
        for (Element e : type.getEnclosedElements()) {
            boolean isStatic = e.getModifiers().contains(Modifier.STATIC);
            if (e.getKind() == ElementKind.FIELD) {
                fields += isStatic ? 0 : 1;
                if (isStatic && !e.getModifiers().contains(Modifier.FINAL)) {
                    breaks(5, trees.getTree(e), "static " + e);
                }
            }
            if (isOuter && e.getKind() != ElementKind.CLASS && !e.getModifiers().contains(Modifier.PRIVATE)
                && !e.getModifiers().contains(Modifier.PUBLIC)) {
                breaks(1, trees.getTree(e), "visible " + e);
            }
            boolean isFace = isOuter && e.getModifiers().contains(Modifier.PUBLIC);
            if (e.getKind() == ElementKind.METHOD && !isFace && publicNames.contains(e.getSimpleName().toString())) {
                breaks(1, trees.getTree(e), "the name of a public method: " + e);
            }
        }
        if (fields > 20) {
            breaks(11, tree, fields + " fields");
        }
        return super.visitClass(tree, v);
    }

    @Override
    public Void visitMethod(MethodTree tree, Void v) {
        if (tree.getParameters().size() > 7) {
            breaks(11, tree, "parameters of " + tree.getName());
        }
        long from = trees.getSourcePositions().getStartPosition(unit, tree);
        long to = trees.getSourcePositions().getEndPosition(unit, tree);
        if (from >= 0 && to >= 0) {
            long lines = unit.getLineMap().getLineNumber(to) - unit.getLineMap().getLineNumber(from) + 1;
            if (lines > 60) {
                breaks(11, tree, tree.getName() + " has " + lines + " lines");
            }
        }
        calls.computeIfAbsent((ExecutableElement) trees.getElement(getCurrentPath()), e -> new LinkedHashSet<>());
        return super.visitMethod(tree, v);
    }

    @Override
    public Void visitVariable(VariableTree tree, Void v) {
        TypeMirror type = trees.getTypeMirror(getCurrentPath());
        String name = type.toString();
        String plain = name.endsWith("[]") ? name.substring(0, name.length() - 2) : name;
        if (!TYPES.contains(name) && !plain.startsWith("RaysOfShapes.")) {
            breaks(3, tree, "type " + name);
        }
        return super.visitVariable(tree, v);
    }

    @Override
    public Void visitMethodInvocation(MethodInvocationTree tree, Void v) {
        called(trees.getElement(new TreePath(getCurrentPath(), tree.getMethodSelect())), tree);
        return super.visitMethodInvocation(tree, v);
    }

    @Override
    public Void visitNewClass(NewClassTree tree, Void v) {
        if (tree.getClassBody() != null) {
            breaks(2, tree, "a class without a name");
        }
        called(trees.getElement(getCurrentPath()), tree);
        return super.visitNewClass(tree, v);
    }

    private void called(Element to, Tree where) {
        TypeElement owner = (TypeElement) to.getEnclosingElement();
        String name = owner.getQualifiedName() + "." + to.getSimpleName();
        if (!name.startsWith("RaysOfShapes")) {
            if (!LIBRARY.contains(name)) {
                breaks(4, where, name);
            }
            return;
        }
        TreePath path = getCurrentPath();
        while (path != null && path.getLeaf().getKind() != Tree.Kind.METHOD) {
            path = path.getParentPath();
        }
        if (path != null) {
            ExecutableElement from = (ExecutableElement) trees.getElement(path);
            calls.computeIfAbsent(from, e -> new LinkedHashSet<>()).add((ExecutableElement) to);
        }
    }

    @Override
    public Void visitMemberSelect(MemberSelectTree tree, Void v) {
        Element e = trees.getElement(getCurrentPath());
        if (e != null && e.getKind() == ElementKind.FIELD && !e.getSimpleName().contentEquals("length")
            && !e.getEnclosingElement().toString().startsWith("RaysOfShapes")) {
            breaks(4, tree, "constant " + tree);
        }
        return super.visitMemberSelect(tree, v);
    }

    @Override
    public Void visitBinary(BinaryTree tree, Void v) {
        TypeMirror left = trees.getTypeMirror(new TreePath(getCurrentPath(), tree.getLeftOperand()));
        TypeMirror right = trees.getTypeMirror(new TreePath(getCurrentPath(), tree.getRightOperand()));
        if (isText(left) || isText(right)) {
            breaks(10, tree, "texts in " + tree);
        }
        return super.visitBinary(tree, v);
    }

    @Override
    public Void visitCompoundAssignment(CompoundAssignmentTree tree, Void v) {
        if (isText(trees.getTypeMirror(new TreePath(getCurrentPath(), tree.getVariable())))) {
            breaks(10, tree, "texts in " + tree);
        }
        return super.visitCompoundAssignment(tree, v);
    }

    private static boolean isText(TypeMirror type) {
        return type != null && type.getKind() == TypeKind.DECLARED && type.toString().equals("java.lang.String");
    }

    // ---- how deep calls go

    private Set<ExecutableElement> reachedFrom(ExecutableElement from) {
        Set<ExecutableElement> reached = new HashSet<>();
        Deque<ExecutableElement> due = new ArrayDeque<>(calls.getOrDefault(from, Set.of()));
        while (!due.isEmpty()) {
            ExecutableElement e = due.pop();
            if (reached.add(e)) {
                due.addAll(calls.getOrDefault(e, Set.of()));
            }
        }
        return reached;
    }

    /** The longest chain of calls; those that call one another count once. */
    private int chainFrom(ExecutableElement from, Map<ExecutableElement, Set<ExecutableElement>> reached,
        Map<ExecutableElement, Integer> known) {
        Integer found = known.get(from);
        if (found != null) {
            return found;
        }
        int longest = 0;
        Set<ExecutableElement> ring = new HashSet<>(Set.of(from));
        for (ExecutableElement e : reached.get(from)) {
            if (reached.getOrDefault(e, Set.of()).contains(from)) {
                ring.add(e);
            }
        }
        for (ExecutableElement member : ring) {
            for (ExecutableElement e : calls.getOrDefault(member, Set.of())) {
                if (!ring.contains(e) && reached.containsKey(e)) {
                    longest = Math.max(longest, chainFrom(e, reached, known));
                }
            }
        }
        known.put(from, longest + 1);
        return longest + 1;
    }

    private void lookAtCalls() {
        Map<ExecutableElement, Set<ExecutableElement>> reached = new HashMap<>();
        for (ExecutableElement e : calls.keySet()) {
            reached.put(e, reachedFrom(e));
        }
        Map<ExecutableElement, Integer> known = new HashMap<>();
        for (ExecutableElement e : calls.keySet()) {
            int chain = chainFrom(e, reached, known);
            if (chain > 8) {
                breaks(11, trees.getTree(e), e + " starts a chain of " + chain + " calls");
            }
            if (reached.get(e).contains(e) && !e.getModifiers().contains(Modifier.PRIVATE)) {
                breaks(8, trees.getTree(e), e + " calls itself and is not private");
            }
        }
    }

    // ---- the face

    private static Set<String> documentFace() throws IOException {
        String text = Files.readString(DOCUMENT);
        String face = text.substring(text.indexOf("public final class RaysOfShapes {"));
        face = face.substring(0, face.indexOf("```"));
        Set<String> told = new TreeSet<>();
        Matcher m = Pattern.compile("public (?:static final )?(\\w+) ?(\\w*)(\\([^)]*\\)| = )").matcher(face);
        while (m.find()) {
            String types = m.group(3).replaceAll(" (?:[a-z]\\w*)(?=[,)])", "").replace(" ", "");
            told.add(m.group(1) + " " + (m.group(2).isEmpty() ? "<init>" : m.group(2)) + (types.equals("=") ? "" : types));
        }
        told.remove("RaysOfShapes <init>()");
        told.add("void <init>()");
        return told;
    }

    private void lookAtFace() throws IOException {
        Set<String> is = new TreeSet<>();
        for (Element e : program.getEnclosedElements()) {
            if (!e.getModifiers().contains(Modifier.PUBLIC)) {
                continue;
            }
            if (e instanceof ExecutableElement method) {
                List<String> types = new ArrayList<>();
                method.getParameters().forEach(p -> types.add(p.asType().toString()));
                is.add(method.getReturnType() + " " + method.getSimpleName() + "(" + String.join(",", types) + ")");
            } else {
                is.add(e.asType() + " " + e.getSimpleName());
            }
        }
        Set<String> told = documentFace();
        if (!is.equals(told) || told.size() != 49) {
            Set<String> both = new TreeSet<>(is);
            both.addAll(told);
            both.removeIf(e -> is.contains(e) && told.contains(e));
            breaks(1, null, "the face is of " + is.size() + ", the document's of " + told.size() + ": " + both);
        }
    }

    private void lookAtSigns() throws IOException {
        String text = Files.readString(SOURCE);
        for (int i = 0; i < text.length(); i++) {
            if (text.charAt(i) > 126 || text.charAt(i) < 32 && text.charAt(i) != '\n') {
                breaks(4, null, "sign " + (int) text.charAt(i));
            }
        }
        if (classes > 13) {
            breaks(11, null, classes + " classes");
        }
    }

    public static void main(String[] args) throws IOException {
        JavaCompiler compiler = ToolProvider.getSystemJavaCompiler();
        try (StandardJavaFileManager files = compiler.getStandardFileManager(null, null, null)) {
            JavacTask task = (JavacTask) compiler.getTask(null, files, null, List.of("-proc:none"), null,
                files.getJavaFileObjects(SOURCE));
            CompilationUnitTree unit = task.parse().iterator().next();
            task.analyze();
            TypeElement program = task.getElements().getTypeElement("RaysOfShapes");
            RaysOfShapesLanguage rules = new RaysOfShapesLanguage(Trees.instance(task), unit, program);
            rules.scan(unit, null);
            rules.lookAtCalls();
            rules.lookAtFace();
            rules.lookAtSigns();
            for (String rule : rules.broken) {
                System.out.println(rule);
            }
            System.out.println(rules.broken.isEmpty() ? "the source keeps to its rules" : "rules are broken");
            System.exit(rules.broken.isEmpty() ? 0 : 1);
        }
    }
}
