import com.sun.source.tree.ArrayAccessTree;
import com.sun.source.tree.BinaryTree;
import com.sun.source.tree.BlockTree;
import com.sun.source.tree.ClassTree;
import com.sun.source.tree.CompilationUnitTree;
import com.sun.source.tree.ExpressionTree;
import com.sun.source.tree.IdentifierTree;
import com.sun.source.tree.MemberSelectTree;
import com.sun.source.tree.MethodInvocationTree;
import com.sun.source.tree.MethodTree;
import com.sun.source.tree.NewArrayTree;
import com.sun.source.tree.NewClassTree;
import com.sun.source.tree.Tree;
import com.sun.source.tree.VariableTree;
import com.sun.source.util.JavacTask;
import com.sun.source.util.TreePath;
import com.sun.source.util.TreePathScanner;
import com.sun.source.util.Trees;
import java.lang.reflect.Constructor;
import java.lang.reflect.Field;
import java.lang.reflect.Method;
import java.lang.reflect.Modifier;
import java.nio.file.Path;
import java.util.EnumSet;
import java.util.HashMap;
import java.util.HashSet;
import java.util.List;
import java.util.Map;
import java.util.Set;
import java.util.TreeSet;
import javax.lang.model.element.Element;
import javax.lang.model.element.ElementKind;
import javax.lang.model.element.ExecutableElement;
import javax.tools.JavaCompiler;
import javax.tools.StandardJavaFileManager;
import javax.tools.ToolProvider;

/** The face of the class, and what of LANGUAGE.md can be looked up in its source. */
public final class LanguageTests {
    private static final Path SOURCE = Path.of("src/main/java/WhaleTown.java");
    private static final String[] FACE = {"int write(int)", "int wipe()", "int fault()", "int lay()", "int sign(int,int)",
        "int works(int,int)", "int day(int,int)", "int diary(int,int)", "int undo()", "long belief(int,int)",
        "long near(int,int,int)", "long sight(int,int,int)", "int tells(int)", "long board(int,int)", "int quiet(int,int)",
        "int saved(int)", "int crews(int)", "int drift(int,int,int,int,int)", "int ahead(int,int)", "int forget()",
        "int first()", "int orders()", "int feigned()", "int spring(int,int,int)", "int keep()", "int back()", "int count(int)"};
    private static final Set<Tree.Kind> BARRED = EnumSet.of(Tree.Kind.THROW, Tree.Kind.TRY, Tree.Kind.CATCH,
            Tree.Kind.SYNCHRONIZED, Tree.Kind.ASSERT, Tree.Kind.LAMBDA_EXPRESSION, Tree.Kind.MEMBER_REFERENCE,
            Tree.Kind.IMPORT, Tree.Kind.SWITCH_EXPRESSION, Tree.Kind.INSTANCE_OF, Tree.Kind.ENHANCED_FOR_LOOP,
            Tree.Kind.WHILE_LOOP, Tree.Kind.DO_WHILE_LOOP);
    /** What of the library the class uses; all of it stands in rule 4. */
    private static final Set<String> LIBRARY = Set.of("java.lang.Math.min", "java.lang.Math.max", "java.lang.Math.abs",
            "java.lang.Integer.bitCount", "java.lang.String.length", "java.lang.String.charAt", "java.lang.Object.<init>");
    private static final int MOST_LINES = 60, MOST_PARAMETERS = 7, MOST_CLASSES = 12, MOST_FIELDS = 20, MOST_DEEP = 8;

    private static int wrong = 0;

    private static void require(boolean holds, String what) {
        if (!holds) {
            wrong++;
            System.out.println(what);
        }
    }

    private static void checkFace() {
        Class<?> c = WhaleTown.class;
        require(Modifier.isPublic(c.getModifiers()) && Modifier.isFinal(c.getModifiers()), "the class is public and final");
        Set<String> found = new TreeSet<>();
        for (Method m : c.getDeclaredMethods()) {
            if (!Modifier.isPrivate(m.getModifiers())) {
                String text = m.toString().replace("public ", "").replace("WhaleTown.", "");
                require(Modifier.isPublic(m.getModifiers()) && !Modifier.isStatic(m.getModifiers()), "not private: " + m);
                found.add(text);
            }
        }
        require(found.equals(new TreeSet<>(List.of(FACE))), "the methods are those of the document, but are " + found);
        for (Constructor<?> k : c.getDeclaredConstructors()) {
            require(k.getParameterCount() == 0 && Modifier.isPublic(k.getModifiers()), "constructor: " + k);
        }
        Set<String> constants = new TreeSet<>();
        for (Field f : c.getDeclaredFields()) {
            if (!Modifier.isPrivate(f.getModifiers())) {
                constants.add(f.toString());
            }
        }
        Set<String> due = new TreeSet<>();
        for (String name : new String[] {"BAD", "NO", "NONE", "FULL"}) {
            due.add("public static final int WhaleTown." + name);
        }
        require(constants.equals(due), "the constants are those of the document, but are " + constants);
        for (Class<?> inside : c.getDeclaredClasses()) {
            int m = inside.getModifiers();
            require(Modifier.isStatic(m) && !Modifier.isPublic(m) && !Modifier.isProtected(m), "class inside: " + inside);
        }
    }

    private static Set<String> faceNames() {
        Set<String> names = new HashSet<>();
        for (String method : FACE) {
            names.add(method.substring(method.indexOf(' ') + 1, method.indexOf('(')));
        }
        return names;
    }

    /** Looks at every part of the source, and notes who calls whom. */
    private static final class Look extends TreePathScanner<Void, Void> {
        private final Trees trees;
        private final CompilationUnitTree unit;
        private final Set<String> faceNames = faceNames();
        final Map<String, Set<String>> calls = new HashMap<>();
        private String method = "";
        private int classes = 0;

        Look(Trees trees, CompilationUnitTree unit) {
            this.trees = trees;
            this.unit = unit;
        }

        private long lineOf(long place) {
            return unit.getLineMap().getLineNumber(place);
        }

        private String at(Tree tree) {
            return " (line " + lineOf(trees.getSourcePositions().getStartPosition(unit, tree)) + ")";
        }

        @Override
        public Void scan(Tree tree, Void v) {
            if (tree != null) {
                require(!BARRED.contains(tree.getKind()), "barred: " + tree.getKind() + at(tree));
            }
            return super.scan(tree, v);
        }

        @Override
        public Void visitClass(ClassTree c, Void v) {
            classes++;
            require(classes <= MOST_CLASSES, "too many classes");
            require(!c.getSimpleName().isEmpty(), "a class without a name" + at(c));
            int fields = 0;
            for (Tree member : c.getMembers()) {
                require(!(member instanceof BlockTree), "an initialiser block" + at(member));
                if (member instanceof VariableTree field) {
                    Set<javax.lang.model.element.Modifier> m = field.getModifiers().getFlags();
                    boolean isStatic = m.contains(javax.lang.model.element.Modifier.STATIC);
                    fields += isStatic ? 0 : 1;
                    require(!isStatic || m.contains(javax.lang.model.element.Modifier.FINAL), "static, not final" + at(field));
                }
            }
            require(fields <= MOST_FIELDS, "too many fields" + at(c));
            return super.visitClass(c, v);
        }

        @Override
        public Void visitMethod(MethodTree m, Void v) {
            Element element = trees.getElement(getCurrentPath());
            long first = lineOf(trees.getSourcePositions().getStartPosition(unit, m));
            long last = lineOf(trees.getSourcePositions().getEndPosition(unit, m));
            boolean isPublic = element.getModifiers().contains(javax.lang.model.element.Modifier.PUBLIC);
            require(last - first < MOST_LINES, "a long method" + at(m));
            require(m.getParameters().size() <= MOST_PARAMETERS, "many parameters" + at(m));
            require(isPublic || !faceNames.contains(m.getName().toString()), "the name of a public method" + at(m));
            method = nameOf(element);
            calls.put(method, new TreeSet<>());
            return super.visitMethod(m, v);
        }

        @Override
        public Void visitMethodInvocation(MethodInvocationTree call, Void v) {
            noteCall(trees.getElement(getCurrentPath()), call);
            return super.visitMethodInvocation(call, v);
        }

        @Override
        public Void visitNewClass(NewClassTree made, Void v) {
            noteCall(trees.getElement(getCurrentPath()), made);
            require(method.endsWith("<init>") || method.isEmpty(), "an object outside a constructor" + at(made));
            return super.visitNewClass(made, v);
        }

        @Override
        public Void visitNewArray(NewArrayTree made, Void v) {
            TreePath parent = getCurrentPath().getParentPath();
            require(parent.getLeaf() instanceof VariableTree && parent.getParentPath().getLeaf() instanceof ClassTree,
                    "an array outside a field" + at(made));
            return super.visitNewArray(made, v);
        }

        @Override
        public Void visitArrayAccess(ArrayAccessTree access, Void v) {
            require(method.startsWith("WhaleTown.Rows."), "an index outside Rows" + at(access));
            return super.visitArrayAccess(access, v);
        }

        @Override
        public Void visitBinary(BinaryTree b, Void v) {
            boolean isText = trees.getTypeMirror(getCurrentPath()).toString().equals("java.lang.String");
            require(!isText, "texts joined by +" + at(b));
            return super.visitBinary(b, v);
        }

        @Override
        public Void visitMemberSelect(MemberSelectTree select, Void v) {
            noteLibrary(trees.getElement(getCurrentPath()), select);
            return super.visitMemberSelect(select, v);
        }

        @Override
        public Void visitIdentifier(IdentifierTree name, Void v) {
            noteLibrary(trees.getElement(getCurrentPath()), name);
            return super.visitIdentifier(name, v);
        }

        private void noteLibrary(Element element, ExpressionTree tree) {
            boolean counts = element != null && element.getEnclosingElement() != null
                    && (element.getKind() == ElementKind.METHOD || element.getKind() == ElementKind.FIELD);
            if (counts && !element.getSimpleName().contentEquals("length")) {
                String name = nameOf(element);
                require(name.startsWith("WhaleTown.") || LIBRARY.contains(name), "not of the library: " + name + at(tree));
            }
        }

        private void noteCall(Element called, Tree tree) {
            require(called != null, "a call of nothing" + at(tree));
            if (called != null && !method.isEmpty()) {
                calls.get(method).add(nameOf(called));
            }
        }

        private static String nameOf(Element element) {
            return element.getEnclosingElement() + "." + (element instanceof ExecutableElement || element.getKind() == ElementKind.FIELD
                    ? element.getSimpleName().toString() : element.toString());
        }
    }

    /** How many calls of the class's own stand open at most, a recursion counted once. */
    private static int depth(Map<String, Set<String>> calls, String method, Set<String> open) {
        int deepest = 0;
        if (!calls.containsKey(method) || !open.add(method)) {
            return 0;
        }
        for (String called : calls.get(method)) {
            deepest = Math.max(deepest, depth(calls, called, open));
        }
        open.remove(method);
        return deepest + 1;
    }

    private static void checkSource() throws java.io.IOException {
        JavaCompiler compiler = ToolProvider.getSystemJavaCompiler();
        try (StandardJavaFileManager files = compiler.getStandardFileManager(null, null, null)) {
            JavacTask task = (JavacTask) compiler.getTask(null, files, null, List.of("-proc:none"), null,
                    files.getJavaFileObjects(SOURCE));
            Iterable<? extends CompilationUnitTree> units = task.parse();
            task.analyze();
            for (CompilationUnitTree unit : units) {
                Look look = new Look(Trees.instance(task), unit);
                look.scan(unit, null);
                for (String method : look.calls.keySet()) {
                    int depth = depth(look.calls, method, new HashSet<>());
                    require(depth <= MOST_DEEP, "calls go " + depth + " deep from " + method);
                }
                require(look.calls.size() > FACE.length, "the source was read");
            }
        }
    }

    public static void main(String[] args) throws java.io.IOException {
        checkFace();
        checkSource();
        System.out.println(wrong == 0 ? "the rules are kept" : wrong + " rules are not kept");
        if (wrong != 0) {
            System.exit(1);
        }
    }
}
