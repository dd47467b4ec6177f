import com.sun.source.tree.ArrayAccessTree;
import com.sun.source.tree.BinaryTree;
import com.sun.source.tree.ClassTree;
import com.sun.source.tree.CompilationUnitTree;
import com.sun.source.tree.LineMap;
import com.sun.source.tree.MethodInvocationTree;
import com.sun.source.tree.MethodTree;
import com.sun.source.tree.NewClassTree;
import com.sun.source.tree.Tree;
import com.sun.source.tree.VariableTree;
import com.sun.source.util.JavacTask;
import com.sun.source.util.SourcePositions;
import com.sun.source.util.TreePathScanner;
import com.sun.source.util.Trees;
import java.io.File;
import java.io.IOException;
import java.io.UncheckedIOException;
import java.util.ArrayList;
import java.util.List;
import java.util.Map;
import java.util.Set;
import java.util.TreeMap;
import java.util.TreeSet;
import javax.lang.model.element.Element;
import javax.lang.model.element.Modifier;
import javax.tools.JavaCompiler;
import javax.tools.StandardJavaFileManager;
import javax.tools.ToolProvider;

/** The class's source as the compiler reads it: what it uses, and which of its methods calls which. */
final class Source extends TreePathScanner<Void, String> {
    static final String CLASS = "MoonlitDoors";

    /** Each kind of tree that the source holds, and of what is declared in it, the numbers. */
    final Set<Tree.Kind> kinds = new TreeSet<>();
    final Map<String, Integer> fields = new TreeMap<>();
    final Map<String, Long> lines = new TreeMap<>();
    final Map<String, Integer> parameters = new TreeMap<>();

    /** What of the library is called or made, and where. */
    final Map<String, String> library = new TreeMap<>();
    final Map<String, Set<String>> calls = new TreeMap<>();
    final Set<String> indexing = new TreeSet<>();
    final Set<String> dividing = new TreeSet<>();
    final List<String> changingStatics = new ArrayList<>();
    final List<String> joiningTexts = new ArrayList<>();

    private final Trees trees;
    private final CompilationUnitTree unit;
    private final LineMap map;
    private final SourcePositions positions;

    private Source(Trees trees, CompilationUnitTree unit) {
        this.trees = trees;
        this.unit = unit;
        map = unit.getLineMap();
        positions = trees.getSourcePositions();
    }

    static Source read(String path) {
        JavaCompiler compiler = ToolProvider.getSystemJavaCompiler();
        StandardJavaFileManager files = compiler.getStandardFileManager(null, null, null);
        JavacTask task = (JavacTask) compiler.getTask(null, files, null, List.of("-proc:none"), null,
                files.getJavaFileObjects(new File(path)));
        try {
            CompilationUnitTree unit = task.parse().iterator().next();
            task.analyze();
            Source source = new Source(Trees.instance(task), unit);
            source.scan(unit, "no method");
            return source;
        } catch (IOException e) {
            throw new UncheckedIOException(e);
        }
    }

    /** Whether more methods than these stand open at once in a call of this one, as they do for one that calls itself. */
    boolean goesDeeper(String method, int methods) {
        if (methods == 0) {
            return true;
        }
        for (String called : calls.getOrDefault(method, Set.of())) {
            if (goesDeeper(called, methods - 1)) {
                return true;
            }
        }
        return false;
    }

    @Override
    public Void scan(Tree tree, String place) {
        if (tree != null) {
            kinds.add(tree.getKind());
        }
        return super.scan(tree, place);
    }

    @Override
    public Void visitClass(ClassTree tree, String place) {
        int own = 0;
        for (Tree member : tree.getMembers()) {
            if (member instanceof VariableTree) {
                Set<Modifier> flags = ((VariableTree) member).getModifiers().getFlags();
                own += flags.contains(Modifier.STATIC) ? 0 : 1;
                if (flags.contains(Modifier.STATIC) && !flags.contains(Modifier.FINAL)) {
                    changingStatics.add(member.toString());
                }
            }
        }
        fields.put(tree.getSimpleName().toString(), own);
        return super.visitClass(tree, place);
    }

    @Override
    public Void visitMethod(MethodTree tree, String place) {
        String name = nameHere();
        calls.putIfAbsent(name, new TreeSet<>());
        parameters.put(name, tree.getParameters().size());
        long end = positions.getEndPosition(unit, tree);
        // What the compiler adds by itself, as a constructor, ends nowhere.
        lines.put(name, end < 0 ? 0 : map.getLineNumber(end) - map.getLineNumber(positions.getStartPosition(unit, tree)) + 1);
        return super.visitMethod(tree, name);
    }

    @Override
    public Void visitMethodInvocation(MethodInvocationTree tree, String place) {
        use(place);
        return super.visitMethodInvocation(tree, place);
    }

    @Override
    public Void visitNewClass(NewClassTree tree, String place) {
        use(place);
        return super.visitNewClass(tree, place);
    }

    @Override
    public Void visitArrayAccess(ArrayAccessTree tree, String place) {
        indexing.add(place);
        return super.visitArrayAccess(tree, place);
    }

    @Override
    public Void visitBinary(BinaryTree tree, String place) {
        if (tree.getKind() == Tree.Kind.DIVIDE || tree.getKind() == Tree.Kind.REMAINDER) {
            dividing.add(place);
        }
        if (trees.getTypeMirror(getCurrentPath()).toString().equals("java.lang.String")) {
            joiningTexts.add(tree.toString());
        }
        return super.visitBinary(tree, place);
    }

    private void use(String place) {
        String name = nameHere();
        if (name.startsWith(CLASS)) {
            calls.computeIfAbsent(place, one -> new TreeSet<>()).add(name);
        } else {
            library.put(name, place);
        }
    }

    private String nameHere() {
        Element element = trees.getElement(getCurrentPath());
        return element.getEnclosingElement() + "." + element;
    }
}
