import com.sun.source.tree.ClassTree;
import com.sun.source.tree.CompilationUnitTree;
import com.sun.source.tree.ImportTree;
import com.sun.source.tree.LineMap;
import com.sun.source.tree.MethodInvocationTree;
import com.sun.source.tree.MethodTree;
import com.sun.source.tree.NewArrayTree;
import com.sun.source.tree.NewClassTree;
import com.sun.source.tree.Tree;
import com.sun.source.tree.VariableTree;
import com.sun.source.util.JavacTask;
import com.sun.source.util.SourcePositions;
import com.sun.source.util.TreePathScanner;
import com.sun.source.util.Trees;
import java.io.IOException;
import java.nio.file.Path;
import java.util.ArrayList;
import java.util.HashMap;
import java.util.HashSet;
import java.util.List;
import java.util.Map;
import java.util.Set;
import java.util.TreeSet;
import javax.lang.model.element.Element;
import javax.lang.model.element.ElementKind;
import javax.lang.model.element.Modifier;
import javax.lang.model.element.TypeElement;
import javax.tools.JavaCompiler;
import javax.tools.StandardJavaFileManager;
import javax.tools.ToolProvider;

/** Holds src/main/java/TideDesk.java against the rules of LANGUAGE.md that can be seen from its text. */
public final class LanguageTest extends TreePathScanner<Void, Void> {
    private static final String FILE = "src/main/java/TideDesk.java";
    private static final int MOST_LINES = 60, MOST_PARAMETERS = 7, MOST_CALLS_DEEP = 8, MOST_CLASSES = 12;
    private static final int MOST_FIELDS = 20;
    private static final Set<String> FACE_OF_LIBRARY = Set.of("java.lang.Math.max", "java.lang.Math.min",
        "java.lang.Math.abs", "java.lang.Math.floorDiv", "java.lang.Math.floorMod");
    private static final Set<String> NUMBERS = Set.of("int", "long", "short", "byte", "char", "boolean", "double", "float");
    private static final Set<Tree.Kind> RULED_OUT = Set.of(Tree.Kind.LAMBDA_EXPRESSION, Tree.Kind.MEMBER_REFERENCE,
        Tree.Kind.SYNCHRONIZED, Tree.Kind.ASSERT, Tree.Kind.TRY, Tree.Kind.THROW, Tree.Kind.IMPORT);
    private static final String[] FACE = {"clock", "mean", "wave", "survey", "cos", "height", "force", "gauge",
        "reading", "out", "at", "air", "compare", "rule", "surge", "lacking", "shoal", "dredge", "depth", "water",
        "waters", "found", "range", "spring", "tide", "stream", "ship", "ask", "asked", "trace", "as", "fleet",
        "join", "member", "move", "shared", "leg", "clear", "sun", "comes", "holds", "windows", "window", "wrong",
        "passage", "plan", "planned", "again", "pass", "tries", "held", "count", "finding", "digest"};

    private final Trees trees;
    private final SourcePositions positions;
    private final CompilationUnitTree unit;
    private final LineMap lines;
    private final Map<Element, Set<Element>> calls = new HashMap<>();
    private final List<String> faults = new ArrayList<>();
    private final Set<String> facePresent = new TreeSet<>();
    private Element method;
    private int classes;

    private LanguageTest(JavacTask task, CompilationUnitTree unit) {
        trees = Trees.instance(task);
        positions = trees.getSourcePositions();
        this.unit = unit;
        lines = unit.getLineMap();
    }

    public static void main(String[] args) throws IOException {
        JavaCompiler compiler = ToolProvider.getSystemJavaCompiler();
        try (StandardJavaFileManager files = compiler.getStandardFileManager(null, null, null)) {
            JavacTask task = (JavacTask) compiler.getTask(null, files, null, null, null,
                files.getJavaFileObjects(Path.of(FILE)));
            CompilationUnitTree unit = task.parse().iterator().next();
            task.analyze();
            LanguageTest test = new LanguageTest(task, unit);
            test.scan(unit, null);
            test.end();
        }
    }

    private void end() {
        due(classes <= MOST_CLASSES, "rule 11: " + classes + " classes");
        due(facePresent.equals(new TreeSet<>(Set.of(FACE))), "rule 1: the face is " + facePresent);
        for (Element from : calls.keySet()) {
            int deep = deepFrom(from, new HashSet<>());
            due(deep <= MOST_CALLS_DEEP, "rule 11: " + deep + " calls deep from " + from);
        }
        faults.forEach(System.out::println);
        System.out.println(faults.isEmpty() ? "the language is kept to" : faults.size() + " rules are not kept");
        if (!faults.isEmpty()) {
            System.exit(1);
        }
    }

    private void due(boolean holds, String fault) {
        if (!holds) {
            faults.add(fault);
        }
    }

    /** How many calls stand open at most, each method counted once on a way. */
    private int deepFrom(Element from, Set<Element> open) {
        int most = 0;
        open.add(from);
        for (Element to : calls.getOrDefault(from, Set.of())) {
            if (!open.contains(to)) {
                most = Math.max(most, deepFrom(to, open));
            }
        }
        open.remove(from);
        return most + 1;
    }

    private long line(long position) {
        return lines.getLineNumber(position);
    }

    @Override
    public Void scan(Tree tree, Void nothing) {
        if (tree != null) {
            long at = line(positions.getStartPosition(unit, tree) < 0 ? 0 : positions.getStartPosition(unit, tree));
            due(!RULED_OUT.contains(tree.getKind()), "line " + at + ": " + tree.getKind() + " is ruled out");
        }
        return super.scan(tree, nothing);
    }

    @Override
    public Void visitImport(ImportTree tree, Void nothing) {
        faults.add("rule 4: nothing need be imported: " + tree);
        return null;
    }

    @Override
    public Void visitClass(ClassTree tree, Void nothing) {
        classes++;
        Element it = trees.getElement(getCurrentPath());
        boolean outermost = it.getSimpleName().contentEquals("TideDesk");
        Set<Modifier> modifiers = it.getModifiers();
        if (outermost) {
            due(modifiers.contains(Modifier.PUBLIC) && modifiers.contains(Modifier.FINAL), "rule 1: public, final");
        } else {
            due(modifiers.contains(Modifier.STATIC) && !modifiers.contains(Modifier.PUBLIC), "rule 1: " + it);
        }
        int fields = 0;
        for (Tree member : tree.getMembers()) {
            if (member instanceof VariableTree field) {
                Set<Modifier> of = field.getModifiers().getFlags();
                fields += of.contains(Modifier.STATIC) ? 0 : 1;
                due(!of.contains(Modifier.STATIC) || of.contains(Modifier.FINAL), "rule 5: " + field);
                boolean constant = of.contains(Modifier.PUBLIC)
                    && Set.of("NONE", "BAD", "NO", "FULL").contains(field.getName().toString());
                due(!outermost || constant || of.contains(Modifier.PRIVATE), "rule 1: " + field);
                due(!of.contains(Modifier.STATIC) || Set.of("int", "long").contains(field.getType().toString()),
                    "rule 5: " + field);
            }
        }
        due(fields <= MOST_FIELDS, "rule 11: " + fields + " fields in " + it);
        return super.visitClass(tree, nothing);
    }

    @Override
    public Void visitMethod(MethodTree tree, Void nothing) {
        Element before = method;
        method = trees.getElement(getCurrentPath());
        long first = line(positions.getStartPosition(unit, tree) < 0 ? 0 : positions.getStartPosition(unit, tree));
        long last = positions.getEndPosition(unit, tree) < 0 ? first : line(positions.getEndPosition(unit, tree));
        due(last - first < MOST_LINES, "rule 11: " + method + " is long");
        due(tree.getParameters().size() <= MOST_PARAMETERS, "rule 11: parameters of " + method);
        boolean outermost = method.getEnclosingElement().getSimpleName().contentEquals("TideDesk");
        boolean open = method.getModifiers().contains(Modifier.PUBLIC);
        boolean closed = method.getModifiers().contains(Modifier.PRIVATE);
        String name = tree.getName().toString();
        if (method.getKind() == ElementKind.METHOD) {
            due(open == (outermost && Set.of(FACE).contains(name)), "rule 1: " + method);
            due(open || !Set.of(FACE).contains(name), "rule 1: " + method + " bears a name of the face");
            due(open || closed || !outermost, "rule 1: " + method + " is seen from without");
            if (open) {
                facePresent.add(name);
            }
        }
        calls.computeIfAbsent(method, m -> new HashSet<>());
        super.visitMethod(tree, nothing);
        method = before;
        return null;
    }

    @Override
    public Void visitMethodInvocation(MethodInvocationTree tree, Void nothing) {
        noteCall(trees.getElement(getCurrentPath()));
        return super.visitMethodInvocation(tree, nothing);
    }

    @Override
    public Void visitNewClass(NewClassTree tree, Void nothing) {
        dueMadeAtFirst(tree);
        noteCall(trees.getElement(getCurrentPath()));
        return super.visitNewClass(tree, nothing);
    }

    @Override
    public Void visitNewArray(NewArrayTree tree, Void nothing) {
        dueMadeAtFirst(tree);
        return super.visitNewArray(tree, nothing);
    }

    /** Objects and rows are made by constructors, or beside the field that keeps them, and by no other method. */
    private void dueMadeAtFirst(Tree tree) {
        boolean isAtFirst = method == null || method.getKind() == ElementKind.CONSTRUCTOR;
        due(isAtFirst, "rule 12: " + method + " makes " + tree);
    }

    @Override
    public Void visitVariable(VariableTree tree, Void nothing) {
        String type = tree.getType().toString().replace("[]", "");
        boolean isOwn = trees.getElement(getCurrentPath()).asType().toString().startsWith("TideDesk.");
        due(isOwn || NUMBERS.contains(type), "rule 3: " + tree);
        return super.visitVariable(tree, nothing);
    }

    private void noteCall(Element to) {
        String owner = ((TypeElement) to.getEnclosingElement()).getQualifiedName().toString();
        String whole = owner + "." + to.getSimpleName();
        if (owner.equals("TideDesk") || owner.startsWith("TideDesk.")) {
            calls.computeIfAbsent(method, m -> new HashSet<>()).add(to);
        } else {
            due(FACE_OF_LIBRARY.contains(whole) || whole.equals("java.lang.Object.<init>"), "rule 4: " + whole);
        }
    }
}
