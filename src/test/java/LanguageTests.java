import com.sun.source.tree.BinaryTree;
import com.sun.source.tree.ClassTree;
import com.sun.source.tree.CompilationUnitTree;
import com.sun.source.tree.LineMap;
import com.sun.source.tree.MethodInvocationTree;
import com.sun.source.tree.MethodTree;
import com.sun.source.tree.NewClassTree;
import com.sun.source.tree.Tree;
import com.sun.source.tree.VariableTree;
import com.sun.source.util.JavacTask;
import com.sun.source.util.TreePathScanner;
import com.sun.source.util.Trees;
import java.io.File;
import java.lang.reflect.Constructor;
import java.lang.reflect.Field;
import java.lang.reflect.Method;
import java.lang.reflect.Modifier;
import java.util.ArrayList;
import java.util.HashSet;
import java.util.LinkedHashMap;
import java.util.LinkedHashSet;
import java.util.List;
import java.util.Map;
import java.util.Set;
import java.util.TreeSet;
import javax.lang.model.element.Element;
import javax.lang.model.element.ElementKind;
import javax.lang.model.element.ExecutableElement;
import javax.lang.model.element.TypeElement;
import javax.tools.JavaCompiler;
import javax.tools.StandardJavaFileManager;
import javax.tools.ToolProvider;

/** Those rules of LANGUAGE.md that a look at the source, or at the class, can tell. */
public final class LanguageTests {
    private static final String SOURCE = "src/main/java/AsInBertha.java";
    private static final int MOST_LINES = 60;
    private static final int MOST_PARAMETERS = 7;
    private static final int MOST_DEPTH = 8;
    private static final int MOST_CLASSES = 12;
    private static final int MOST_FIELDS = 20;
    private static final Set<Tree.Kind> FORBIDDEN = Set.of(
        Tree.Kind.THROW, Tree.Kind.TRY, Tree.Kind.CATCH, Tree.Kind.SYNCHRONIZED, Tree.Kind.ASSERT,
        Tree.Kind.LAMBDA_EXPRESSION, Tree.Kind.MEMBER_REFERENCE, Tree.Kind.ANNOTATION_TYPE,
        Tree.Kind.BINDING_PATTERN);
    private static final Set<String> LIBRARY = Set.of(
        "java.lang.String.length", "java.lang.String.charAt", "java.lang.String.isEmpty", "java.lang.String.equals",
        "java.lang.String.indexOf", "java.lang.String.substring", "java.lang.String.toCharArray",
        "java.lang.Math.max", "java.lang.Math.min", "java.lang.Math.abs", "java.lang.System.arraycopy",
        "java.util.Arrays.fill", "java.util.Arrays.copyOf", "java.util.Arrays.copyOfRange", "java.lang.Object.<init>");
    private static int wrong = 0;

    private static void fault(String what) {
        wrong++;
        System.out.println(what);
    }

    public static void main(String[] args) throws Exception {
        look();
        face();
        System.out.println(wrong == 0 ? "the language is kept" : wrong + " faults of language");
        if (wrong != 0) {
            System.exit(1);
        }
    }

    private static void look() throws Exception {
        JavaCompiler compiler = ToolProvider.getSystemJavaCompiler();
        StandardJavaFileManager files = compiler.getStandardFileManager(null, null, null);
        JavacTask task = (JavacTask) compiler.getTask(null, files, null, List.of("-proc:none"), null,
            files.getJavaFileObjects(new File(SOURCE)));
        CompilationUnitTree unit = task.parse().iterator().next();
        task.analyze();
        Look look = new Look(unit, Trees.instance(task));
        look.scan(unit, null);
        look.end();
    }

    private static final class Look extends TreePathScanner<Void, Void> {
        final CompilationUnitTree unit;
        final Trees trees;
        final LineMap lines;
        final Map<Element, Set<Element>> calls = new LinkedHashMap<>();
        final Set<String> publicNames = new TreeSet<>();
        final List<MethodTree> notPublic = new ArrayList<>();
        Element method;
        int classes;

        Look(CompilationUnitTree unit, Trees trees) {
            this.unit = unit;
            this.trees = trees;
            lines = unit.getLineMap();
        }

        long line(Tree tree) {
            return lines.getLineNumber(trees.getSourcePositions().getStartPosition(unit, tree));
        }

        @Override
        public Void scan(Tree tree, Void v) {
            if (tree != null && FORBIDDEN.contains(tree.getKind())) {
                fault("line " + line(tree) + ": " + tree.getKind());
            }
            return super.scan(tree, v);
        }

        @Override
        public Void visitClass(ClassTree tree, Void v) {
            classes++;
            boolean top = getCurrentPath().getParentPath().getLeaf() == unit;
            Set<javax.lang.model.element.Modifier> modifiers = tree.getModifiers().getFlags();
            if (!top && !modifiers.contains(javax.lang.model.element.Modifier.STATIC)) {
                fault("class " + tree.getSimpleName() + " is not static");
            }
            int fields = 0;
            for (Tree member : tree.getMembers()) {
                if (member instanceof VariableTree field) {
                    boolean isStatic = field.getModifiers().getFlags()
                        .contains(javax.lang.model.element.Modifier.STATIC);
                    boolean isFinal = field.getModifiers().getFlags().contains(javax.lang.model.element.Modifier.FINAL);
                    if (isStatic && !isFinal) {
                        fault("static field " + field.getName() + " is not final");
                    }
                    fields += isStatic ? 0 : 1;
                }
                if (member.getKind() == Tree.Kind.BLOCK) {
                    fault("class " + tree.getSimpleName() + " has an initialiser block");
                }
            }
            if (fields > MOST_FIELDS) {
                fault("class " + tree.getSimpleName() + " has " + fields + " fields");
            }
            return super.visitClass(tree, v);
        }

        @Override
        public Void visitMethod(MethodTree tree, Void v) {
            Element outer = method;
            method = trees.getElement(getCurrentPath());
            calls.put(method, new LinkedHashSet<>());
            long last = lines.getLineNumber(trees.getSourcePositions().getEndPosition(unit, tree));
            if (last - line(tree) + 1 > MOST_LINES) {
                fault(tree.getName() + " is too long");
            }
            if (tree.getParameters().size() > MOST_PARAMETERS) {
                fault(tree.getName() + " has too many parameters");
            }
            if (tree.getModifiers().getFlags().contains(javax.lang.model.element.Modifier.PUBLIC)) {
                publicNames.add(tree.getName().toString());
            } else if (method.getKind() == ElementKind.METHOD) {
                notPublic.add(tree);
            }
            super.visitMethod(tree, v);
            method = outer;
            return null;
        }

        @Override
        public Void visitMethodInvocation(MethodInvocationTree tree, Void v) {
            ExecutableElement called = (ExecutableElement) trees.getElement(
                new com.sun.source.util.TreePath(getCurrentPath(), tree.getMethodSelect()));
            note(called, tree);
            return super.visitMethodInvocation(tree, v);
        }

        @Override
        public Void visitNewClass(NewClassTree tree, Void v) {
            note((ExecutableElement) trees.getElement(getCurrentPath()), tree);
            return super.visitNewClass(tree, v);
        }

        private void note(ExecutableElement called, Tree tree) {
            TypeElement owner = (TypeElement) called.getEnclosingElement();
            String name = owner.getQualifiedName().toString();
            if (!name.startsWith("AsInBertha") && !LIBRARY.contains(name + "." + called.getSimpleName())) {
                fault("line " + line(tree) + ": " + name + "." + called.getSimpleName());
            }
            if (method != null) {
                calls.get(method).add(called);
            }
        }

        @Override
        public Void visitBinary(BinaryTree tree, Void v) {
            String type = String.valueOf(trees.getTypeMirror(getCurrentPath()));
            if (tree.getKind() == Tree.Kind.PLUS && type.equals("java.lang.String")) {
                fault("line " + line(tree) + ": texts joined by +");
            }
            return super.visitBinary(tree, v);
        }

        void end() {
            for (MethodTree tree : notPublic) {
                if (publicNames.contains(tree.getName().toString())) {
                    fault("method " + tree.getName() + " bears the name of a public one");
                }
            }
            if (classes - 1 > MOST_CLASSES) {
                fault(classes + " classes");
            }
            for (Element m : calls.keySet()) {
                if (m.getModifiers().contains(javax.lang.model.element.Modifier.PUBLIC)) {
                    List<Element> way = deepest(m, new HashSet<>());
                    if (way.size() > MOST_DEPTH) {
                        fault("calls go " + way.size() + " deep: " + way);
                    }
                }
            }
        }

        /** The longest way of calls within the file; a call that is recursion ends it. */
        private List<Element> deepest(Element from, Set<Element> open) {
            List<Element> best = new ArrayList<>();
            open.add(from);
            for (Element to : calls.getOrDefault(from, Set.of())) {
                if (calls.containsKey(to) && !open.contains(to)) {
                    List<Element> way = deepest(to, open);
                    if (way.size() > best.size()) {
                        best = way;
                    }
                }
            }
            open.remove(from);
            best.add(0, from);
            return best;
        }
    }

    /** The document's face, and no other member that is seen from outside. */
    private static void face() {
        String[] methods = {
            "int name(int,int)", "int mend(int,int,int)", "int of(int,int)", "int letter(int,int)", "int feed(int)",
            "int law()", "long heard(int,int,int)", "long likely(int,int,int)", "int likeliest(int)",
            "int sure(int,int)", "long check(int,int,int)", "long again(int,int)", "long right(int,int,int)",
            "int time(int,int)", "int leastSaid(int,int)", "int worst(int)", "long confused(int,int)",
            "int nearest(int)", "int pairs()", "long sums(int,int,int)", "int stop(int,int)", "int who(int)",
            "int odd(int)", "int fits(int,int)", "int drawn(int,int,int)", "int call(int,int)", "int say(int,int)",
            "int noted(int)", "int hang()", "int led(int)", "int image()", "int back()", "int undo()", "int redo()",
            "int body(int)", "int act(int,int,int)", "int trace(int)", "int keep(int,int)", "int row(int,int,int)",
            "int put(int,int,long)", "long element(int,int)", "int shift(int,int,int,int,int)", "int taken(int,int)",
            "int count(int)"};
        Set<String> due = new TreeSet<>(List.of(methods));
        Set<String> seen = new TreeSet<>();
        for (Method m : AsInBertha.class.getDeclaredMethods()) {
            if (!Modifier.isPrivate(m.getModifiers()) && !m.isSynthetic()) {
                String name = m.toGenericString().replace("AsInBertha.", "").replace("public ", "");
                seen.add(name.replace(", ", ","));
            }
        }
        if (!due.equals(seen)) {
            fault("the face's methods are " + seen);
        }
        Set<String> constants = new TreeSet<>();
        for (Field f : AsInBertha.class.getDeclaredFields()) {
            if (!Modifier.isPrivate(f.getModifiers())) {
                constants.add(f.toGenericString());
            }
        }
        Set<String> dueConstants = new TreeSet<>();
        for (String name : new String[] {"BAD", "NOT", "FULL", "STATE", "VOID"}) {
            dueConstants.add("public static final int AsInBertha." + name);
        }
        if (!dueConstants.equals(constants)) {
            fault("the face's constants are " + constants);
        }
        Constructor<?>[] made = AsInBertha.class.getDeclaredConstructors();
        if (made.length != 1 || made[0].getParameterCount() != 0 || !Modifier.isPublic(made[0].getModifiers())) {
            fault("the face's constructor is not as due");
        }
        int own = AsInBertha.class.getModifiers();
        if (!Modifier.isPublic(own) || !Modifier.isFinal(own)) {
            fault("the class is not public and final");
        }
        for (Class<?> inside : AsInBertha.class.getDeclaredClasses()) {
            int m = inside.getModifiers();
            if (Modifier.isPublic(m) || Modifier.isProtected(m) || !Modifier.isStatic(m)) {
                fault("class " + inside.getName() + " is not as due");
            }
        }
    }
}
