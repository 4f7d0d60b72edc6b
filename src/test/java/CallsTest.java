import com.sun.source.tree.CompilationUnitTree;
import com.sun.source.tree.MethodInvocationTree;
import com.sun.source.tree.MethodTree;
import com.sun.source.tree.NewClassTree;
import com.sun.source.tree.VariableTree;
import com.sun.source.util.JavacTask;
import com.sun.source.util.TreePathScanner;
import com.sun.source.util.Trees;
import java.io.IOException;
import java.lang.reflect.Array;
import java.lang.reflect.Field;
import java.lang.reflect.Modifier;
import java.nio.file.Path;
import java.util.ArrayList;
import java.util.Collections;
import java.util.IdentityHashMap;
import java.util.List;
import java.util.Map;
import java.util.Set;
import java.util.TreeMap;
import java.util.TreeSet;
import javax.lang.model.element.Element;
import javax.lang.model.element.ElementKind;
import javax.lang.model.element.VariableElement;
import javax.tools.JavaCompiler;
import javax.tools.StandardJavaFileManager;
import javax.tools.ToolProvider;

/**
 * Rules of the language that need more than the program's text: what calls what (as the compiler
 * sees it), which of the library is used, what stays static, and how much room an object takes.
 */
public final class CallsTest {
    private static final Path SOURCE = Path.of("src/main/java/HeatPinch.java");
    private static final Set<String> LIBRARY = Set.of("java.lang.Math.max(int,int)", "java.lang.Math.min(int,int)",
            "java.util.NoSuchElementException.NoSuchElementException(java.lang.String)");
    private static final Set<String> CONSTANTS = Set.of("int", "long", "boolean", "char", "java.lang.String");

    private static int wrong = 0;

    private static void fault(String what) {
        wrong++;
        System.out.println(what);
    }

    private static void atMost(String what, int got, int most) {
        if (got > most) {
            fault(what + ": " + got + ", at most " + most + " are due");
        }
    }

    /** Gathers from the program's tree which method calls which, of its own and of the library. */
    private static final class Gatherer extends TreePathScanner<Void, Void> {
        final Map<String, Set<String>> calls = new TreeMap<>();
        final Set<String> library = new TreeSet<>();
        private final Trees trees;
        private String here = "";

        Gatherer(Trees trees) {
            this.trees = trees;
        }

        private Element element() {
            return trees.getElement(getCurrentPath());
        }

        private static String nameOf(Element e) {
            return e.getEnclosingElement() + "." + e;
        }

        @Override
        public Void visitMethod(MethodTree tree, Void v) {
            here = nameOf(element());
            calls.put(here, new TreeSet<>());
            atMost(here + " has parameters", tree.getParameters().size(), 7);
            super.visitMethod(tree, v);
            here = "";
            return null;
        }

        private void called(Element e) {
            String name = nameOf(e);
            if (!name.startsWith("HeatPinch")) {
                library.add(name);
            } else if (!here.isEmpty()) {
                calls.get(here).add(name);
            }
        }

        @Override
        public Void visitMethodInvocation(MethodInvocationTree tree, Void v) {
            Element e = element();
            if (!e.toString().equals("super()") && !nameOf(e).startsWith("java.lang.Object.")) {
                called(e);
            }
            return super.visitMethodInvocation(tree, v);
        }

        @Override
        public Void visitNewClass(NewClassTree tree, Void v) {
            called(element());
            return super.visitNewClass(tree, v);
        }

        @Override
        public Void visitVariable(VariableTree tree, Void v) {
            Element e = element();
            boolean constant = e.getKind() == ElementKind.FIELD && e.getModifiers().toString().contains("static");
            if (constant && (((VariableElement) e).getConstantValue() == null
                    || !CONSTANTS.contains(e.asType().toString()))) {
                fault("static, but no written constant: " + nameOf(e));
            }
            return super.visitVariable(tree, v);
        }
    }

    private static Gatherer gather() throws IOException {
        JavaCompiler compiler = ToolProvider.getSystemJavaCompiler();
        try (StandardJavaFileManager files = compiler.getStandardFileManager(null, null, null)) {
            List<String> options = List.of("-proc:none");
            JavacTask task = (JavacTask) compiler.getTask(null, files, null, options, null,
                    files.getJavaFileObjects(SOURCE));
            Iterable<? extends CompilationUnitTree> units = task.parse();
            task.analyze();
            Gatherer g = new Gatherer(Trees.instance(task));
            for (CompilationUnitTree unit : units) {
                g.scan(unit, null);
            }
            return g;
        }
    }

    /** The longest chain of calls from a method on, itself counted; a ring of calls is a fault. */
    private static List<String> longest(Map<String, Set<String>> calls, String name, List<String> open) {
        if (open.contains(name)) {
            fault("calls itself: " + open + " " + name);
            return List.of(name);
        }
        List<String> way = new ArrayList<>(open);
        way.add(name);
        List<String> best = List.of();
        for (String next : calls.getOrDefault(name, Set.of())) {
            List<String> chain = longest(calls, next, way);
            best = chain.size() > best.size() ? chain : best;
        }
        List<String> all = new ArrayList<>(List.of(name));
        all.addAll(best);
        return all;
    }

    private static void callsAreFew() throws IOException {
        Gatherer g = gather();
        List<String> deepest = List.of();
        for (String name : g.calls.keySet()) {
            List<String> chain = longest(g.calls, name, List.of());
            deepest = chain.size() > deepest.size() ? chain : deepest;
        }
        atMost("calls deep " + deepest, deepest.size(), 8);
        if (deepest.size() < 3) {
            fault("no calls were found");
        }
        Set<String> foreign = new TreeSet<>(g.library);
        foreign.removeAll(LIBRARY);
        if (!foreign.isEmpty()) {
            fault("not of the library that is used so far: " + foreign);
        }
    }

    /** Objects and arrays that hang on one, and how many fields and elements they have. */
    private static final class Room {
        final Set<Object> seen = Collections.newSetFromMap(new IdentityHashMap<>());
        int cells = 0;

        void enter(Object o) throws IllegalAccessException {
            if (o == null || !seen.add(o)) {
                return;
            }
            if (o.getClass().isArray()) {
                cells += Array.getLength(o);
                return;
            }
            for (Field f : o.getClass().getDeclaredFields()) {
                if (!Modifier.isStatic(f.getModifiers())) {
                    cells++;
                    f.setAccessible(true);
                    if (!f.getType().isPrimitive()) {
                        enter(f.get(o));
                    }
                }
            }
        }
    }

    /** Of 600,000 objects and 7,300,000 cells in a run, 5,000 new HeatPinches have room. */
    private static void roomIsSmall() throws IllegalAccessException {
        Room room = new Room();
        HeatPinch x = new HeatPinch();
        room.enter(x);
        atMost("objects and arrays of a new HeatPinch", room.seen.size(), 600_000 / 5_000);
        atMost("fields and elements of a new HeatPinch", room.cells, 7_300_000 / 5_000);
    }

    public static void main(String[] args) throws IOException, IllegalAccessException {
        callsAreFew();
        roomIsSmall();
        System.out.println(wrong == 0 ? "calls and room are as the rules want" : wrong + " faults");
        if (wrong != 0) {
            System.exit(1);
        }
    }
}
