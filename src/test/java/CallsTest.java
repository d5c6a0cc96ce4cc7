import com.sun.source.tree.BlockTree;
import com.sun.source.tree.ClassTree;
import com.sun.source.tree.CompilationUnitTree;
import com.sun.source.tree.MethodInvocationTree;
import com.sun.source.tree.MethodTree;
import com.sun.source.tree.NewClassTree;
import com.sun.source.tree.Tree;
import com.sun.source.util.JavacTask;
import com.sun.source.util.TreePath;
import com.sun.source.util.TreePathScanner;
import com.sun.source.util.Trees;
import java.io.File;
import java.io.IOException;
import java.util.ArrayDeque;
import java.util.ArrayList;
import java.util.Deque;
import java.util.LinkedHashMap;
import java.util.LinkedHashSet;
import java.util.List;
import java.util.Map;
import java.util.Set;
import java.util.TreeSet;
import javax.lang.model.element.Element;
import javax.lang.model.element.ElementKind;
import javax.lang.model.element.ExecutableElement;
import javax.lang.model.element.Modifier;
import javax.lang.model.element.TypeElement;
import javax.lang.model.util.Elements;
import javax.tools.JavaCompiler;
import javax.tools.StandardJavaFileManager;
import javax.tools.ToolProvider;

/**
 * Who calls whom in the class, as javac reads it, held against rules 4, 8, 11 and 12 of ../shared/LANGUAGE.md:
 * the library's members by name, no recursion but the one that carries its depth, at most eight calls deep.
 * Run from the project's root.
 */
public final class CallsTest {
    private static final Check CHECK = new Check("CallsTest");
    private static final int DEEPEST = 8;
    private static final int MOST_PARAMETERS = 7;
    private static final int MOST_CLASSES = 12;
    private static final int MOST_FIELDS = 20;

    /** What the class may call that is not its own. */
    private static final Set<String> LIBRARY = Set.of(
        "java.lang.Integer.bitCount(int)", "java.lang.Math.max(int,int)", "java.lang.Math.min(int,int)",
        "java.lang.System.arraycopy(java.lang.Object,int,java.lang.Object,int,int)",
        "java.lang.Object.Object()",
        "java.lang.IllegalStateException.IllegalStateException(java.lang.String)",
        "java.lang.IllegalArgumentException.IllegalArgumentException(java.lang.String)");

    /** The one search that goes deeper by itself, as many meetings as its last argument tells. */
    private static final Set<String> RECURSIVE = Set.of("ShipsThatMeet.firstOfWay");

    private final Map<ExecutableElement, Set<ExecutableElement>> calls = new LinkedHashMap<>();
    private final List<ClassTree> classes = new ArrayList<>();
    private final Map<ExecutableElement, List<String>> deepest = new LinkedHashMap<>();
    private Elements elements;

    public static void main(String[] args) throws IOException {
        JavaCompiler compiler = ToolProvider.getSystemJavaCompiler();
        StandardJavaFileManager files = compiler.getStandardFileManager(null, null, null);
        JavacTask task = (JavacTask) compiler.getTask(null, files, null, List.of("-proc:none"), null,
            files.getJavaFileObjects(new File("src/main/java/ShipsThatMeet.java")));
        new CallsTest().look(task);
        CHECK.end();
    }

    private void look(JavacTask task) throws IOException {
        elements = task.getElements();
        Trees trees = Trees.instance(task);
        List<CompilationUnitTree> units = new ArrayList<>();
        task.parse().forEach(units::add);
        task.analyze();
        for (CompilationUnitTree unit : units) {
            new Reader(trees).scan(unit, null);
        }
        CHECK.holds("methods are found", calls.size() > 100);
        library();
        recursion();
        depth();
        sizes();
    }

    /** Gathers what each method calls; javac has put in the calls of super() that are not written. */
    private final class Reader extends TreePathScanner<Void, Void> {
        private final Trees trees;
        private final Deque<ExecutableElement> inside = new ArrayDeque<>();

        Reader(Trees trees) {
            this.trees = trees;
        }

        @Override
        public Void visitClass(ClassTree tree, Void nothing) {
            classes.add(tree);
            return super.visitClass(tree, nothing);
        }

        @Override
        public Void visitMethod(MethodTree tree, Void nothing) {
            ExecutableElement method = (ExecutableElement) trees.getElement(getCurrentPath());
            calls.put(method, new LinkedHashSet<>());
            inside.push(method);
            super.visitMethod(tree, nothing);
            inside.pop();
            return null;
        }

        @Override
        public Void visitBlock(BlockTree tree, Void nothing) {
            Tree parent = getCurrentPath().getParentPath().getLeaf();
            CHECK.holds("no block that begins a class or an object", !(parent instanceof ClassTree));
            return super.visitBlock(tree, nothing);
        }

        @Override
        public Void visitMethodInvocation(MethodInvocationTree tree, Void nothing) {
            called(trees.getElement(new TreePath(getCurrentPath(), tree.getMethodSelect())));
            return super.visitMethodInvocation(tree, nothing);
        }

        @Override
        public Void visitNewClass(NewClassTree tree, Void nothing) {
            called(trees.getElement(getCurrentPath()));
            return super.visitNewClass(tree, nothing);
        }

        private void called(Element method) {
            CHECK.holds("a call stands in a method", !inside.isEmpty() && method instanceof ExecutableElement);
            if (!inside.isEmpty() && method instanceof ExecutableElement) {
                calls.get(inside.peek()).add((ExecutableElement) method);
            }
        }
    }

    private static String named(ExecutableElement method) {
        String owner = ((TypeElement) method.getEnclosingElement()).getQualifiedName().toString();
        return owner + "." + (method.getKind() == ElementKind.CONSTRUCTOR ? "new" : method.getSimpleName());
    }

    private void library() {
        for (Set<ExecutableElement> called : calls.values()) {
            for (ExecutableElement method : called) {
                if (!calls.containsKey(method)) {
                    String name = ((TypeElement) method.getEnclosingElement()).getQualifiedName() + "." + method;
                    CHECK.holds("the library's " + name + " is one of those that are known", LIBRARY.contains(name));
                }
            }
        }
    }

    /** A call of a method that others override may be a call of theirs. */
    private Set<ExecutableElement> mayCall(ExecutableElement method) {
        Set<ExecutableElement> all = new LinkedHashSet<>();
        for (ExecutableElement called : calls.getOrDefault(method, Set.of())) {
            all.add(called);
            // super.x() is just the one above
            boolean up = called.getSimpleName().equals(method.getSimpleName()) && !called.equals(method);
            for (ExecutableElement other : up ? Set.<ExecutableElement>of() : calls.keySet()) {
                if (elements.overrides(other, called, (TypeElement) other.getEnclosingElement())) {
                    all.add(other);
                }
            }
        }
        return all;
    }

    private void recursion() {
        Set<String> recursive = new TreeSet<>();
        for (ExecutableElement method : calls.keySet()) {
            Set<ExecutableElement> reached = new LinkedHashSet<>();
            Deque<ExecutableElement> left = new ArrayDeque<>(mayCall(method));
            while (!left.isEmpty()) {
                ExecutableElement next = left.pop();
                if (reached.add(next)) {
                    left.addAll(mayCall(next));
                }
            }
            if (reached.contains(method)) {
                recursive.add(named(method));
            }
        }
        CHECK.holds("only " + RECURSIVE + " calls itself: " + recursive, recursive.equals(RECURSIVE));
    }

    private void depth() {
        for (ExecutableElement method : calls.keySet()) {
            if (method.getModifiers().contains(Modifier.PUBLIC)) {
                List<String> chain = chain(method);
                CHECK.holds(chain.size() + " calls deep: " + chain, chain.size() <= DEEPEST);
            }
        }
    }

    /** The longest chain of calls from a method on, itself and those of the library counted. */
    private List<String> chain(ExecutableElement method) {
        List<String> known = deepest.get(method);
        if (known != null) {
            return known;
        }
        List<String> longest = List.of();
        for (ExecutableElement next : mayCall(method)) {
            if (!next.equals(method)) {
                List<String> chain = chain(next);
                longest = chain.size() > longest.size() ? chain : longest;
            }
        }
        List<String> all = new ArrayList<>();
        all.add(named(method));
        all.addAll(longest);
        deepest.put(method, all);
        return all;
    }

    private void sizes() {
        CHECK.holds(classes.size() + " classes", classes.size() <= MOST_CLASSES);
        for (ClassTree one : classes) {
            int fields = 0;
            for (Tree member : one.getMembers()) {
                boolean isField = member.getKind() == Tree.Kind.VARIABLE;
                fields += isField && !member.toString().contains("static final") ? 1 : 0;
            }
            CHECK.holds(one.getSimpleName() + " has " + fields + " fields", fields <= MOST_FIELDS);
        }
        for (ExecutableElement method : calls.keySet()) {
            int parameters = method.getParameters().size();
            CHECK.holds(named(method) + " takes " + parameters, parameters <= MOST_PARAMETERS);
        }
    }
}
