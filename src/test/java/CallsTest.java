import com.sun.source.tree.ClassTree;
import com.sun.source.tree.CompilationUnitTree;
import com.sun.source.tree.MethodInvocationTree;
import com.sun.source.tree.MethodTree;
import com.sun.source.tree.NewArrayTree;
import com.sun.source.tree.NewClassTree;
import com.sun.source.tree.VariableTree;
import com.sun.source.util.JavacTask;
import com.sun.source.util.TreePath;
import com.sun.source.util.TreePathScanner;
import com.sun.source.util.Trees;
import java.nio.file.Path;
import java.util.ArrayList;
import java.util.HashMap;
import java.util.LinkedHashMap;
import java.util.LinkedHashSet;
import java.util.List;
import java.util.Map;
import java.util.Set;
import java.util.TreeSet;
import javax.lang.model.element.Element;
import javax.lang.model.element.ElementKind;
import javax.lang.model.element.ExecutableElement;
import javax.lang.model.element.Modifier;
import javax.lang.model.type.TypeKind;
import javax.tools.JavaCompiler;
import javax.tools.StandardJavaFileManager;
import javax.tools.ToolProvider;

/** Holds the program against those rules of ../shared/LANGUAGE.md for which one must know what calls what. */
public final class CallsTest {
    private static final Path PROGRAM = Path.of("src/main/java/MillRow.java");
    private static final int MOST_DEEP = 8;
    private static final Set<String> LIBRARY = Set.of("java.lang.String.length", "java.lang.String.charAt",
            "java.lang.Math.max", "java.lang.Math.min", "java.lang.Math.floorMod", "java.util.Arrays.fill",
            "java.lang.System.arraycopy");
    /** The reading of a condition, as deep as "not" and "(" are open in one another. */
    private static final Set<String> RECURSION = Set.of("Reader.takesAny", "Reader.takesAll", "Reader.takesOne");
    private static final Map<String, Set<String>> calls = new LinkedHashMap<>();
    private static final Map<String, Integer> depths = new HashMap<>();
    private static final Set<String> publicNames = new TreeSet<>();
    private static final List<String> otherNames = new ArrayList<>();
    private static final Set<String> wrong = new LinkedHashSet<>();

    public static void main(String[] args) throws Exception {
        JavaCompiler compiler = ToolProvider.getSystemJavaCompiler();
        try (StandardJavaFileManager files = compiler.getStandardFileManager(null, null, null)) {
            JavacTask task = (JavacTask) compiler.getTask(null, files, null, List.of("-Xlint:all", "-Werror", "-proc:none"),
                    null, files.getJavaFileObjects(PROGRAM));
            Iterable<? extends CompilationUnitTree> units = task.parse();
            task.analyze();
            for (CompilationUnitTree unit : units) {
                new Look(Trees.instance(task)).scan(unit, null);
            }
        }
        for (String name : otherNames) {
            if (publicNames.contains(name.substring(name.indexOf('.') + 1))) {
                wrong.add("bears the name of a public method: " + name);
            }
        }
        int deepest = 0;
        for (String method : calls.keySet()) {
            deepest = Math.max(deepest, depth(method, new LinkedHashSet<>()));
        }
        if (deepest > MOST_DEEP) {
            wrong.add("calls go " + deepest + " deep");
        }
        if (calls.size() < 100 || publicNames.size() != 44) {
            wrong.add("only " + calls.size() + " methods were looked at, " + publicNames.size() + " of them public");
        }
        wrong.forEach(System.out::println);
        System.out.println("calls " + deepest + " deep, library and objects made: " + wrong.size() + " wrong");
        if (!wrong.isEmpty()) {
            System.exit(1);
        }
    }

    /** How many calls stand open at once at most, a recursion's methods once each. */
    private static int depth(String method, Set<String> open) {
        if (depths.containsKey(method)) {
            return depths.get(method);
        }
        if (!open.add(method)) {
            if (!RECURSION.contains(method)) {
                wrong.add("a recursion that isn't the reading's: " + method);
            }
            return 0;
        }
        int deepest = 0;
        for (String called : calls.getOrDefault(method, Set.of())) {
            deepest = Math.max(deepest, depth(called, open));
        }
        open.remove(method);
        if (!RECURSION.contains(method)) {
            depths.put(method, deepest + 1);
        }
        return deepest + 1;
    }

    /** Notes every call, every object made and every type that a name has. */
    private static final class Look extends TreePathScanner<Void, Void> {
        private final Trees trees;

        Look(Trees trees) {
            this.trees = trees;
        }

        private static String nameOf(Element e) {
            return e.getEnclosingElement().getSimpleName() + "." + e.getSimpleName();
        }

        private static boolean isOwn(Element e) {
            Element outer = e;
            while (outer.getEnclosingElement() != null && outer.getEnclosingElement().getKind() != ElementKind.PACKAGE) {
                outer = outer.getEnclosingElement();
            }
            return outer.getSimpleName().contentEquals("MillRow");
        }

        /** The method around the place that is looked at; a field's first value counts to the constructor. */
        private String here() {
            for (TreePath p = getCurrentPath(); p != null; p = p.getParentPath()) {
                if (p.getLeaf() instanceof MethodTree) {
                    return nameOf(trees.getElement(p));
                }
                if (p.getLeaf() instanceof ClassTree) {
                    return trees.getElement(p).getSimpleName() + ".<init>";
                }
            }
            return "";
        }

        private void called(Element e) {
            calls.computeIfAbsent(here(), k -> new LinkedHashSet<>()).add(nameOf(e));
        }

        @Override
        public Void visitMethod(MethodTree tree, Void unused) {
            ExecutableElement e = (ExecutableElement) trees.getElement(getCurrentPath());
            if (!calls.containsKey(nameOf(e))) {
                calls.put(nameOf(e), new LinkedHashSet<>());
            }
            if (e.getKind() != ElementKind.CONSTRUCTOR) {
                if (e.getModifiers().contains(Modifier.PUBLIC)) {
                    publicNames.add(e.getSimpleName().toString());
                } else {
                    otherNames.add(nameOf(e));
                }
            }
            if (e.getParameters().size() > 7) {
                wrong.add("more than seven parameters: " + nameOf(e));
            }
            return super.visitMethod(tree, unused);
        }

        @Override
        public Void visitMethodInvocation(MethodInvocationTree tree, Void unused) {
            Element e = trees.getElement(getCurrentPath());
            if (isOwn(e)) {
                called(e);
            } else if (e.getKind() != ElementKind.CONSTRUCTOR && !LIBRARY.contains(e.getEnclosingElement() + "." + e.getSimpleName())) {
                wrong.add("not in the library: " + e.getEnclosingElement() + "." + e.getSimpleName());
            }
            return super.visitMethodInvocation(tree, unused);
        }

        @Override
        public Void visitNewClass(NewClassTree tree, Void unused) {
            Element e = trees.getElement(getCurrentPath());
            called(e);
            made();
            return super.visitNewClass(tree, unused);
        }

        @Override
        public Void visitNewArray(NewArrayTree tree, Void unused) {
            made();
            return super.visitNewArray(tree, unused);
        }

        /** mill() alone names a Mill for a place without one; no such place is left by the constructor. */
        private void made() {
            if (!here().endsWith(".<init>") && !here().equals("MillRow.mill")) {
                wrong.add("an object is made in " + here());
            }
        }

        @Override
        public Void visitVariable(VariableTree tree, Void unused) {
            Element e = trees.getElement(getCurrentPath());
            String type = e.asType().toString().replace("[]", "");
            boolean simple = Set.of("int", "long", "boolean", "java.lang.String").contains(type);
            if (e.asType().getKind() == TypeKind.ERROR || !simple && !type.startsWith("MillRow.")) {
                wrong.add("a type that the program does not need: " + type + " " + e.getSimpleName());
            }
            return super.visitVariable(tree, unused);
        }
    }
}
