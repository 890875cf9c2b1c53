import com.sun.source.tree.ArrayAccessTree;
import com.sun.source.tree.AssignmentTree;
import com.sun.source.tree.BlockTree;
import com.sun.source.tree.ClassTree;
import com.sun.source.tree.CompilationUnitTree;
import com.sun.source.tree.CompoundAssignmentTree;
import com.sun.source.tree.ForLoopTree;
import com.sun.source.tree.LineMap;
import com.sun.source.tree.MethodInvocationTree;
import com.sun.source.tree.MethodTree;
import com.sun.source.tree.NewClassTree;
import com.sun.source.tree.Tree;
import com.sun.source.tree.UnaryTree;
import com.sun.source.tree.VariableTree;
import com.sun.source.tree.WhileLoopTree;
import com.sun.source.util.JavacTask;
import com.sun.source.util.SourcePositions;
import com.sun.source.util.TreePathScanner;
import com.sun.source.util.Trees;
import java.io.File;
import java.lang.reflect.Constructor;
import java.lang.reflect.Field;
import java.lang.reflect.Method;
import java.lang.reflect.Modifier;
import java.util.ArrayList;
import java.util.Arrays;
import java.util.HashMap;
import java.util.HashSet;
import java.util.List;
import java.util.Map;
import java.util.Set;
import java.util.TreeSet;
import java.util.stream.Collectors;
import javax.lang.model.element.Element;
import javax.tools.JavaCompiler;
import javax.tools.StandardJavaFileManager;
import javax.tools.ToolProvider;

/** The rules of LANGUAGE.md that a program can look at, and the document's face. */
public final class LanguageTest {
    private static final String SOURCE = "src/main/java/WarmFloor.java";

    private static final String FACE = "cell(int,int,int) read(int,int) wall(int,int,boolean) set(int,int) "
        + "person(int,int,int) seat(int,int) type(int,int) wipe(int) fault(int) dial(int,int,int) tune(int,int,int) "
        + "warmth(int,int,int) number(int,int) did(int,int,int) all(int,int) run(int) harm(int,int) fight(int,int) "
        + "leads(int,int) ring() best(int,int) seats(int) feel(int) worth(int) vote(int,int,int) gain(int,int,int,int) "
        + "monday(int,int,int,int) span(int,int) sheet(int,int,int) lose(int) lay(int,int,int,int) get(int,int,int) "
        + "copy(int,int,int,int,int) write(int,int) count(int) digest()";

    private static final Set<String> LIBRARY = Set.of("java.lang.Math.min(int,int)", "java.lang.Math.max(int,int)",
        "java.lang.Integer.compare(int,int)", "java.lang.Integer.bitCount(int)", "java.util.Arrays.fill(int[],int)",
        "java.util.Arrays.fill(int[],int,int,int)", "java.lang.System.arraycopy(java.lang.Object,int,java.lang.Object,int,int)",
        "java.lang.Object.clone()", "Array.clone()", "java.lang.Object.Object()");

    private static int wrong = 0;

    private static void rule(int number, boolean holds, String what) {
        if (!holds) {
            wrong++;
            System.out.println("rule " + number + ": " + what);
        }
    }

    public static void main(String[] args) throws Exception {
        lookAtFace();
        lookAtSource();
        System.out.println(wrong == 0 ? "all rules are kept" : wrong + " rules are not kept");
        if (wrong != 0) {
            System.exit(1);
        }
    }

    private static String signature(Method m) {
        return m.getName() + Arrays.stream(m.getParameterTypes()).map(Class::getSimpleName).collect(Collectors.joining(",", "(", ")"));
    }

    private static void lookAtFace() {
        int type = WarmFloor.class.getModifiers();
        rule(1, Modifier.isPublic(type) && Modifier.isFinal(type), "the class is public and final");
        Set<String> face = new TreeSet<>();
        for (Method m : WarmFloor.class.getDeclaredMethods()) {
            if (!Modifier.isPrivate(m.getModifiers())) {
                face.add(signature(m));
                rule(1, Modifier.isPublic(m.getModifiers()) && !Modifier.isStatic(m.getModifiers()), m + " is public");
                rule(1, m.getReturnType() == (m.getName().equals("digest") ? long.class : int.class), m + " answers otherwise");
            }
        }
        rule(1, face.equals(new TreeSet<>(List.of(FACE.split(" ")))), "the face is " + face);
        Set<String> constants = new TreeSet<>();
        for (Field f : WarmFloor.class.getDeclaredFields()) {
            if (!Modifier.isPrivate(f.getModifiers())) {
                constants.add(f.toString());
            }
            rule(5, !Modifier.isStatic(f.getModifiers()) || Modifier.isFinal(f.getModifiers()), f + " is final");
        }
        Set<String> due = new TreeSet<>();
        for (String name : List.of("NONE", "BAD", "NOT", "FULL")) {
            due.add("public static final int WarmFloor." + name);
        }
        rule(1, constants.equals(due), "the constants are " + constants);
        Constructor<?>[] made = WarmFloor.class.getDeclaredConstructors();
        rule(1, made.length == 1 && Modifier.isPublic(made[0].getModifiers()) && made[0].getParameterCount() == 0, "one constructor");
        for (Class<?> inside : WarmFloor.class.getDeclaredClasses()) {
            int m = inside.getModifiers();
            rule(1, Modifier.isStatic(m) && !Modifier.isPublic(m) && !Modifier.isProtected(m), inside + " is static, and not public");
        }
    }

    private static void lookAtSource() throws Exception {
        JavaCompiler compiler = ToolProvider.getSystemJavaCompiler();
        try (StandardJavaFileManager files = compiler.getStandardFileManager(null, null, null)) {
            JavacTask task = (JavacTask) compiler.getTask(null, files, null, List.of("-proc:none"), null,
                files.getJavaFileObjects(new File(SOURCE)));
            CompilationUnitTree unit = task.parse().iterator().next();
            task.analyze();
            Look look = new Look(Trees.instance(task), unit);
            look.scan(unit, null);
            look.finish();
        }
    }

    private static final class Look extends TreePathScanner<Void, Void> {
        private static final Set<Tree.Kind> FORBIDDEN = Set.of(Tree.Kind.THROW, Tree.Kind.TRY, Tree.Kind.CATCH, Tree.Kind.SYNCHRONIZED,
            Tree.Kind.ASSERT, Tree.Kind.LAMBDA_EXPRESSION, Tree.Kind.MEMBER_REFERENCE, Tree.Kind.YIELD);

        private static final Set<Tree.Kind> STEPPING = Set.of(Tree.Kind.PREFIX_INCREMENT, Tree.Kind.PREFIX_DECREMENT,
            Tree.Kind.POSTFIX_INCREMENT, Tree.Kind.POSTFIX_DECREMENT);
        private static final Set<String> TYPES = Set.of("int", "long", "short", "byte", "char", "boolean", "int[]", "long[]", "short[]",
            "byte[]", "char[]", "boolean[]", "java.lang.String");

        private final Trees trees;
        private final CompilationUnitTree unit;
        private final SourcePositions places;
        private final LineMap lines;
        private final Map<Element, Set<Element>> calls = new HashMap<>();
        private final List<String> privateNames = new ArrayList<>();
        private final Set<String> publicNames = new HashSet<>();
        private int classes = 0;
        private Element caller = null;

        Look(Trees trees, CompilationUnitTree unit) {
            this.trees = trees;
            this.unit = unit;
            this.places = trees.getSourcePositions();
            this.lines = unit.getLineMap();
        }

        private long line(Tree tree) {
            return lines.getLineNumber(places.getStartPosition(unit, tree));
        }

        @Override
        public Void scan(Tree tree, Void v) {
            if (tree != null) {
                rule(6, !FORBIDDEN.contains(tree.getKind()), tree.getKind() + " in line " + (FORBIDDEN.contains(tree.getKind()) ? line(tree) : 0));
            }
            return super.scan(tree, v);
        }

        @Override
        public Void visitClass(ClassTree tree, Void v) {
            classes++;
            rule(2, caller == null, tree.getSimpleName() + " stands in a method");
            long fields = tree.getMembers().stream().filter(m -> m instanceof VariableTree f
                && !f.getModifiers().getFlags().contains(javax.lang.model.element.Modifier.STATIC)).count();
            rule(11, fields <= 20, tree.getSimpleName() + " has " + fields + " fields");
            for (Tree member : tree.getMembers()) {
                rule(5, !(member instanceof BlockTree), "a block of its own in " + tree.getSimpleName());
            }
            return super.visitClass(tree, v);
        }

        @Override
        public Void visitMethod(MethodTree tree, Void v) {
            caller = trees.getElement(getCurrentPath());
            calls.put(caller, new HashSet<>());
            rule(11, tree.getParameters().size() <= 7, tree.getName() + " takes too much");
            long first = line(tree);
            long last = lines.getLineNumber(Math.max(0, places.getEndPosition(unit, tree)));
            rule(11, last - first < 60, tree.getName() + " is " + (last - first + 1) + " lines long");
            boolean isPublic = tree.getModifiers().getFlags().contains(javax.lang.model.element.Modifier.PUBLIC);
            if (isPublic) {
                publicNames.add(tree.getName().toString());
            } else {
                privateNames.add(tree.getName().toString());
            }
            Void answer = super.visitMethod(tree, v);
            caller = null;
            return answer;
        }

        @Override
        public Void visitVariable(VariableTree tree, Void v) {
            String type = String.valueOf(trees.getTypeMirror(getCurrentPath()));
            rule(3, TYPES.contains(type) || type.startsWith("WarmFloor"), tree.getName() + " is of type " + type);
            return super.visitVariable(tree, v);
        }

        @Override
        public Void visitAssignment(AssignmentTree tree, Void v) {
            lookAtChanged(tree.getVariable());
            return super.visitAssignment(tree, v);
        }

        @Override
        public Void visitCompoundAssignment(CompoundAssignmentTree tree, Void v) {
            lookAtChanged(tree.getVariable());
            return super.visitCompoundAssignment(tree, v);
        }

        @Override
        public Void visitUnary(UnaryTree tree, Void v) {
            if (STEPPING.contains(tree.getKind())) {
                lookAtChanged(tree.getExpression());
            }
            return super.visitUnary(tree, v);
        }

        /** By a cautious reading of rule 5 nothing that is named as constants are is changed, nor an item of it. */
        private void lookAtChanged(Tree target) {
            Tree row = target instanceof ArrayAccessTree item ? item.getExpression() : target;
            rule(5, !row.toString().matches("[A-Z_]+"), row + " is changed in line " + line(row));
        }

        @Override
        public Void visitWhileLoop(WhileLoopTree tree, Void v) {
            rule(9, !tree.getCondition().toString().equals("(true)"), "a loop without an end in line " + line(tree));
            return super.visitWhileLoop(tree, v);
        }

        @Override
        public Void visitForLoop(ForLoopTree tree, Void v) {
            rule(9, tree.getCondition() != null, "a loop without an end in line " + line(tree));
            return super.visitForLoop(tree, v);
        }

        @Override
        public Void visitMethodInvocation(MethodInvocationTree tree, Void v) {
            note(trees.getElement(getCurrentPath()));
            return super.visitMethodInvocation(tree, v);
        }

        @Override
        public Void visitNewClass(NewClassTree tree, Void v) {
            rule(2, tree.getClassBody() == null, "a class without a name in line " + line(tree));
            note(trees.getElement(getCurrentPath()));
            return super.visitNewClass(tree, v);
        }

        private void note(Element callee) {
            if (caller != null && callee != null) {
                calls.get(caller).add(callee);
            }
        }

        private int depth(Element from, List<Element> open) {
            if (open.contains(from)) {
                rule(8, false, "recursion at " + from);
                return 1000;
            }
            open.add(from);
            int most = 0;
            for (Element callee : calls.getOrDefault(from, Set.of())) {
                most = Math.max(most, depth(callee, open));
            }
            open.remove(open.size() - 1);
            return most + 1;
        }

        void finish() {
            rule(11, classes <= 12, classes + " classes");
            for (String name : privateNames) {
                rule(1, name.equals("<init>") || !publicNames.contains(name), name + " is the name of a public one");
            }
            int most = 0;
            for (Element method : calls.keySet()) {
                int depth = depth(method, new ArrayList<>());
                most = Math.max(most, depth);
                rule(11, depth <= 8, method + " goes " + depth + " deep");
                for (Element callee : calls.get(method)) {
                    String name = callee.getEnclosingElement() + "." + callee;
                    String plain = callee.toString().startsWith(callee.getEnclosingElement() + "(")
                        ? callee.getEnclosingElement() + "." + callee.getEnclosingElement().getSimpleName() + "()" : name;
                    rule(4, name.startsWith("WarmFloor") || LIBRARY.contains(name) || LIBRARY.contains(plain), name + " is not listed");
                }
            }
            System.out.println("calls go " + most + " deep, " + classes + " classes");
        }
    }
}
