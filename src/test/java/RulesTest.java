import com.sun.source.tree.ClassTree;
import com.sun.source.tree.CompilationUnitTree;
import com.sun.source.tree.DoWhileLoopTree;
import com.sun.source.tree.ForLoopTree;
import com.sun.source.tree.LineMap;
import com.sun.source.tree.MethodInvocationTree;
import com.sun.source.tree.MethodTree;
import com.sun.source.tree.NewArrayTree;
import com.sun.source.tree.NewClassTree;
import com.sun.source.tree.Tree;
import com.sun.source.tree.VariableTree;
import com.sun.source.tree.WhileLoopTree;
import com.sun.source.util.JavacTask;
import com.sun.source.util.TreePathScanner;
import com.sun.source.util.Trees;
import java.io.File;
import java.io.IOException;
import java.lang.reflect.Array;
import java.lang.reflect.Field;
import java.lang.reflect.Modifier;
import java.util.ArrayDeque;
import java.util.Collections;
import java.util.Deque;
import java.util.IdentityHashMap;
import java.util.LinkedHashSet;
import java.util.List;
import java.util.Map;
import java.util.LinkedHashMap;
import java.util.Set;
import javax.lang.model.element.Element;
import javax.lang.model.element.ElementKind;
import javax.tools.JavaCompiler;
import javax.tools.StandardJavaFileManager;
import javax.tools.ToolProvider;

/** Rules of LANGUAGE.md that are read off the tree that the compiler makes, and the room of a house. */
public final class RulesTest extends Checks {
    private static final String SOURCE = "src/main/java/CellPlane.java";
    private static final int MOST_LINES = 60, MOST_DEEP = 8, MOST_CLASSES = 12, MOST_FIELDS = 20, MOST_TAKEN = 7;

    public static void main(String[] args) throws IOException, IllegalAccessException {
        Reading reading = read();
        callsGoNoDeeper(reading);
        roomOfAHouse();
        finish();
    }

    private static Reading read() throws IOException {
        JavaCompiler compiler = ToolProvider.getSystemJavaCompiler();
        try (StandardJavaFileManager files = compiler.getStandardFileManager(null, null, null)) {
            JavacTask task = (JavacTask) compiler.getTask(null, files, null, List.of("-proc:none"), null,
                    files.getJavaFileObjects(new File(SOURCE)));
            Reading reading = null;
            for (CompilationUnitTree unit : task.parse()) {
                task.analyze();
                reading = new Reading(Trees.instance(task), unit);
                reading.scan(unit, null);
            }
            return reading;
        }
    }

    /** Goes through the program once: looks at each part of it, and notes who calls whom. */
    private static final class Reading extends TreePathScanner<Void, Void> {
        final Trees trees;
        final CompilationUnitTree unit;
        final Map<Element, Set<Element>> calls = new LinkedHashMap<>();
        int classes = 0;
        private Element inside = null;

        Reading(Trees trees, CompilationUnitTree unit) {
            this.trees = trees;
            this.unit = unit;
        }

        private long lineOf(long position) {
            LineMap lines = unit.getLineMap();
            return lines.getLineNumber(position);
        }

        private String placeOf(Tree tree) {
            return " in line " + lineOf(trees.getSourcePositions().getStartPosition(unit, tree));
        }

        private void noteCall() {
            Element called = trees.getElement(getCurrentPath());
            if (inside != null && called != null) {
                calls.get(inside).add(called);
            }
        }

        @Override
        public Void visitClass(ClassTree tree, Void nothing) {
            about("rule 11: a class some twenty fields beside its constants");
            int fields = 0;
            for (Tree member : tree.getMembers()) {
                if (member instanceof VariableTree field
                        && !field.getModifiers().getFlags().contains(javax.lang.model.element.Modifier.STATIC)) {
                    fields++;
                }
            }
            due("few fields of " + tree.getSimpleName(), fields <= MOST_FIELDS ? 1 : 0, 1);
            classes++;
            about("rule 11: the file has at most some twelve classes");
            due("classes", Math.max(classes, MOST_CLASSES), MOST_CLASSES);
            return super.visitClass(tree, nothing);
        }

        @Override
        public Void visitMethod(MethodTree tree, Void nothing) {
            long first = lineOf(trees.getSourcePositions().getStartPosition(unit, tree));
            long last = lineOf(trees.getSourcePositions().getEndPosition(unit, tree));
            about("rule 11: methods stay short, and take at most seven");
            due("lines of " + tree.getName(), Math.max(last - first + 1, MOST_LINES), MOST_LINES);
            due("parameters of " + tree.getName(), Math.max(tree.getParameters().size(), MOST_TAKEN), MOST_TAKEN);
            Element outer = inside;
            inside = trees.getElement(getCurrentPath());
            calls.put(inside, new LinkedHashSet<>());
            super.visitMethod(tree, nothing);
            inside = outer;
            return null;
        }

        @Override
        public Void visitMethodInvocation(MethodInvocationTree tree, Void nothing) {
            noteCall();
            return super.visitMethodInvocation(tree, nothing);
        }

        @Override
        public Void visitNewClass(NewClassTree tree, Void nothing) {
            noteCall();
            madeWithTheHouse(tree);
            return super.visitNewClass(tree, nothing);
        }

        @Override
        public Void visitNewArray(NewArrayTree tree, Void nothing) {
            madeWithTheHouse(tree);
            return super.visitNewArray(tree, nothing);
        }

        private void madeWithTheHouse(Tree tree) {
            about("rule 12: what is made is made with the house, by no call");
            due("made by a call" + placeOf(tree),
                    inside == null || inside.getKind() == ElementKind.CONSTRUCTOR ? 0 : 1, 0);
        }

        @Override
        public Void visitForLoop(ForLoopTree tree, Void nothing) {
            about("rule 9: every loop has an end that can be seen from its own lines");
            due("a bound of the loop" + placeOf(tree), tree.getCondition() == null ? 0 : 1, 1);
            due("a step of the loop" + placeOf(tree), tree.getUpdate().size(), 1);
            return super.visitForLoop(tree, nothing);
        }

        @Override
        public Void visitWhileLoop(WhileLoopTree tree, Void nothing) {
            about("rule 9: this program counts in all of its loops");
            due("while" + placeOf(tree), 1, 0);
            return super.visitWhileLoop(tree, nothing);
        }

        @Override
        public Void visitDoWhileLoop(DoWhileLoopTree tree, Void nothing) {
            about("rule 9: this program counts in all of its loops");
            due("do" + placeOf(tree), 1, 0);
            return super.visitDoWhileLoop(tree, nothing);
        }
    }

    private static void callsGoNoDeeper(Reading reading) {
        about("rule 11: calls that are no recursion go at most eight deep; rule 8: this program has none");
        for (Element method : reading.calls.keySet()) {
            due("calls from " + method, Math.max(depthOf(reading, method, new ArrayDeque<>()), MOST_DEEP), MOST_DEEP);
        }
    }

    /** How many calls stand open at once, the library's one counted, too. */
    private static int depthOf(Reading reading, Element method, Deque<Element> open) {
        if (open.contains(method)) {
            due("no recursion at " + method, 1, 0);
            return 0;
        }
        open.push(method);
        int deepest = 0;
        for (Element called : reading.calls.getOrDefault(method, Set.of())) {
            deepest = Math.max(deepest, depthOf(reading, called, open));
        }
        open.pop();
        return deepest + 1;
    }

    /** All houses of a run share 600,000 objects and 7.3 million fields: a thousand houses are to fit by far. */
    private static void roomOfAHouse() throws IllegalAccessException {
        about("rule 12: what a run makes is kept small");
        Set<Object> found = Collections.newSetFromMap(new IdentityHashMap<>());
        Deque<Object> open = new ArrayDeque<>(List.of(new CellPlane()));
        int parts = 0;
        while (!open.isEmpty()) {
            Object one = open.pop();
            if (!found.add(one)) {
                continue;
            }
            parts += one.getClass().isArray() ? lookInArray(one, open) : lookInObject(one, open);
        }
        due("objects and arrays", Math.max(found.size(), 150), 150);
        due("fields and elements", Math.max(parts, 1500), 1500);
    }

    private static int lookInArray(Object array, Deque<Object> open) {
        for (int i = 0; i < Array.getLength(array) && !array.getClass().getComponentType().isPrimitive(); i++) {
            open.push(Array.get(array, i));
        }
        return Array.getLength(array);
    }

    private static int lookInObject(Object one, Deque<Object> open) throws IllegalAccessException {
        int fields = 0;
        for (Field field : one.getClass().getDeclaredFields()) {
            if (!Modifier.isStatic(field.getModifiers())) {
                field.setAccessible(true);
                fields++;
                if (!field.getType().isPrimitive()) {
                    open.push(field.get(one));
                }
            }
        }
        return fields;
    }
}
