import com.sun.source.tree.CompilationUnitTree;
import com.sun.source.tree.MethodInvocationTree;
import com.sun.source.tree.MethodTree;
import com.sun.source.tree.NewArrayTree;
import com.sun.source.tree.NewClassTree;
import com.sun.source.tree.Tree;
import com.sun.source.util.JavacTask;
import com.sun.source.util.TreePath;
import com.sun.source.util.TreePathScanner;
import com.sun.source.util.Trees;
import java.nio.file.Path;
import java.util.ArrayList;
import java.util.LinkedHashMap;
import java.util.LinkedHashSet;
import java.util.List;
import java.util.Map;
import java.util.Set;
import javax.lang.model.element.Element;
import javax.lang.model.element.ElementKind;
import javax.lang.model.element.ExecutableElement;
import javax.lang.model.element.Modifier;
import javax.tools.JavaCompiler;
import javax.tools.StandardJavaFileManager;
import javax.tools.ToolProvider;

/** What the compiler can tell of LANGUAGE.md: which method calls which, and what of the library is called. */
public final class CallsTest {
    private static final int DEEPEST = 8;
    private static final Set<String> LIBRARY = Set.of("System.arraycopy", "Math.max", "Math.min", "Math.abs",
        "Long.bitCount", "Object.<init>");
    /** Each method with those that it calls. */
    private static final Map<Element, Set<Element>> calls = new LinkedHashMap<>();
    /** Which methods a method comes to, by any number of calls. */
    private static final Map<Element, Set<Element>> reach = new LinkedHashMap<>();
    private static final Map<Element, Integer> depths = new LinkedHashMap<>();

    private static final class Reader extends TreePathScanner<Void, Element> {
        private final Trees trees;

        Reader(Trees trees) {
            this.trees = trees;
        }

        @Override
        public Void visitMethod(MethodTree tree, Element outer) {
            Element own = trees.getElement(getCurrentPath());
            calls.computeIfAbsent(own, e -> new LinkedHashSet<>());
            return super.visitMethod(tree, own);
        }

        @Override
        public Void visitMethodInvocation(MethodInvocationTree tree, Element own) {
            note(tree.getMethodSelect(), own);
            return super.visitMethodInvocation(tree, own);
        }

        @Override
        public Void visitNewClass(NewClassTree tree, Element own) {
            note(tree, own);
            madeWithTheObject(tree, own);
            return super.visitNewClass(tree, own);
        }

        @Override
        public Void visitNewArray(NewArrayTree tree, Element own) {
            madeWithTheObject(tree, own);
            return super.visitNewArray(tree, own);
        }

        /** What a method makes would be counted for each call: no call of this program makes any. */
        private static void madeWithTheObject(Tree made, Element own) {
            Check.due(made + " is made in a field, not by " + own, own == null ? 1 : 0, 1);
        }

        private void note(Tree called, Element own) {
            Element e = trees.getElement(new TreePath(getCurrentPath(), called));
            Check.due("the compiler knows " + called, e instanceof ExecutableElement ? 1 : 0, 1);
            if (own != null && e != null) calls.get(own).add(e);
            else if (e != null && !isOurs(e)) library(e);
        }
    }

    private static boolean isOurs(Element e) {
        for (Element at = e; at != null; at = at.getEnclosingElement()) {
            if (at.getSimpleName().contentEquals("HandsAndWays")) return true;
        }
        return false;
    }

    private static String name(Element e) {
        return e.getEnclosingElement().getSimpleName() + "." + e.getSimpleName();
    }

    private static void library(Element e) {
        Check.due(name(e) + " is in the library", LIBRARY.contains(name(e)) ? 1 : 0, 1);
    }

    private static void read() throws Exception {
        JavaCompiler compiler = ToolProvider.getSystemJavaCompiler();
        try (StandardJavaFileManager files = compiler.getStandardFileManager(null, null, null)) {
            JavacTask task = (JavacTask) compiler.getTask(null, files, null, List.of("-proc:none"), null,
                files.getJavaFileObjects(Path.of("src/main/java/HandsAndWays.java")));
            List<CompilationUnitTree> units = new ArrayList<>();
            for (CompilationUnitTree unit : task.parse()) units.add(unit);
            task.analyze();
            for (CompilationUnitTree unit : units) new Reader(Trees.instance(task)).scan(unit, null);
        }
    }

    private static Set<Element> reachOf(Element from) {
        Set<Element> all = reach.get(from);
        if (all != null) return all;
        all = new LinkedHashSet<>();
        List<Element> line = new ArrayList<>(List.of(from));
        for (int i = 0; i < line.size(); i++) {
            for (Element to : calls.getOrDefault(line.get(i), Set.of())) if (isOurs(to) && all.add(to)) line.add(to);
        }
        reach.put(from, all);
        return all;
    }

    private static boolean isTogether(Element a, Element b) {
        return a.equals(b) || (reachOf(a).contains(b) && reachOf(b).contains(a));
    }

    /** Calls that stand open at once at most, its own among them; of methods that call one another each one once. */
    private static int depthOf(Element from) {
        Integer known = depths.get(from);
        if (known != null) return known;
        int members = 0, below = 0;
        for (Element one : calls.keySet()) {
            if (!isTogether(from, one)) continue;
            members++;
            for (Element to : calls.get(one)) {
                if (isOurs(to) && !isTogether(from, to)) below = Math.max(below, depthOf(to));
            }
        }
        depths.put(from, members + below);
        return members + below;
    }

    /** Rule 1 and 8: what calls itself or one another is private; rule 11: calls go at most eight deep. */
    private static void depth() {
        for (Element one : calls.keySet()) {
            if (one.getKind() == ElementKind.METHOD && reachOf(one).contains(one)) {
                Check.due(name(one) + " comes to itself and is private",
                    one.getModifiers().contains(Modifier.PRIVATE) ? 1 : 0, 1);
            }
            if (one.getModifiers().contains(Modifier.PUBLIC)) {
                Check.due(name(one) + " goes " + depthOf(one) + " deep", depthOf(one) <= DEEPEST ? 1 : 0, 1);
            }
        }
    }

    private static void libraries() {
        for (Set<Element> all : calls.values()) for (Element e : all) if (!isOurs(e)) library(e);
    }

    /** Rule 1: also of the classes inside, though their methods are not the document's. */
    private static void names() {
        Set<String> face = new LinkedHashSet<>();
        for (Element e : calls.keySet()) if (e.getModifiers().contains(Modifier.PUBLIC)) face.add("" + e.getSimpleName());
        for (Element e : calls.keySet()) {
            if (e.getKind() != ElementKind.METHOD || e.getModifiers().contains(Modifier.PUBLIC)) continue;
            Check.due(name(e) + " bears a public name", face.contains("" + e.getSimpleName()) ? 1 : 0, 0);
        }
    }

    public static void main(String[] args) throws Exception {
        read();
        Check.due("methods were read: " + calls.size(), calls.size() > 100 ? 1 : 0, 1);
        depth();
        libraries();
        names();
        Check.end("CallsTest");
    }
}
