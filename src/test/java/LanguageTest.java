import com.sun.source.tree.AssertTree;
import com.sun.source.tree.CatchTree;
import com.sun.source.tree.ClassTree;
import com.sun.source.tree.CompilationUnitTree;
import com.sun.source.tree.ImportTree;
import com.sun.source.tree.LambdaExpressionTree;
import com.sun.source.tree.MemberReferenceTree;
import com.sun.source.tree.MethodInvocationTree;
import com.sun.source.tree.MethodTree;
import com.sun.source.tree.NewClassTree;
import com.sun.source.tree.SynchronizedTree;
import com.sun.source.tree.ThrowTree;
import com.sun.source.tree.Tree;
import com.sun.source.tree.TryTree;
import com.sun.source.tree.VariableTree;
import com.sun.source.util.JavacTask;
import com.sun.source.util.SourcePositions;
import com.sun.source.util.TreePath;
import com.sun.source.util.TreePathScanner;
import com.sun.source.util.Trees;
import java.io.File;
import java.lang.reflect.Constructor;
import java.lang.reflect.Field;
import java.lang.reflect.Method;
import java.util.ArrayList;
import java.util.Arrays;
import java.util.HashMap;
import java.util.HashSet;
import java.util.LinkedHashMap;
import java.util.LinkedHashSet;
import java.util.List;
import java.util.Map;
import java.util.Set;
import java.util.TreeSet;
import javax.lang.model.element.Element;
import javax.lang.model.element.ElementKind;
import javax.lang.model.element.Modifier;
import javax.tools.JavaCompiler;
import javax.tools.StandardJavaFileManager;
import javax.tools.ToolProvider;

/** The rules of LANGUAGE.md that can be seen in the source, and the face of the document. */
public final class LanguageTest {
    private static final String SOURCE = "src/main/java/CountedTwice.java";

    private static final String[] FACE = {
        "int state(int)", "int house(int,int,int)", "boolean gap(int,int,int)", "boolean set(int,int)", "int way(int,int,int)",
        "int feed(int,int,int,int,int)", "boolean end(int)", "int text(int)", "int fault(int)",
        "int entry(int,int,int,int,int,int)", "boolean voids(int)", "boolean view(int)", "int of(int,int)",
        "int alike(int,int,int)", "int home(int,int,int)", "int person(int,int)", "int table(int,int)", "int ends(int)",
        "long luck(int,int,int,int)", "int counter(int,int)", "long even(int)", "int suspect()", "int step(int,int,int)",
        "int round(int,int)", "boolean last(int,int,int)", "boolean closed(int,int,boolean)", "boolean plan(int,int,int)",
        "int planned()", "int best()", "long lots(int)", "boolean image(boolean)", "int look(int)"};

    private static final Set<String> LIBRARY = Set.of(
            "java.lang.String.length", "java.lang.String.charAt", "java.lang.String.indexOf", "java.lang.Math.min",
            "java.lang.Math.max", "java.lang.Math.abs", "java.lang.Math.floorMod", "java.lang.Long.bitCount", "java.lang.Long.numberOfTrailingZeros",
            "java.lang.System.arraycopy", "java.util.Arrays.fill", "java.lang.Object.<init>");

    private static void face() {
        Set<String> want = new TreeSet<>(Arrays.asList(FACE));
        Set<String> got = new TreeSet<>();
        for (Method m : CountedTwice.class.getDeclaredMethods()) {
            int how = m.getModifiers();
            if (java.lang.reflect.Modifier.isPublic(how)) {
                StringBuilder s = new StringBuilder(m.getReturnType() + " " + m.getName() + "(");
                for (Class<?> p : m.getParameterTypes()) {
                    s.append(s.charAt(s.length() - 1) == '(' ? "" : ",").append(p);
                }
                got.add(s.append(")").toString());
            } else {
                Check.isSo("1: private: " + m, java.lang.reflect.Modifier.isPrivate(how) || m.isSynthetic());
            }
        }
        Check.isSo("1: the face is " + got, got.equals(want));
        Constructor<?>[] constructors = CountedTwice.class.getDeclaredConstructors();
        Check.due("1: one constructor", constructors.length, 1);
        Check.isSo("1: public", java.lang.reflect.Modifier.isPublic(constructors[0].getModifiers()));
        Check.due("1: without parameters", constructors[0].getParameterCount(), 0);
        for (Field f : CountedTwice.class.getDeclaredFields()) {
            boolean isNone = f.getName().equals("NONE");
            boolean isPublic = java.lang.reflect.Modifier.isPublic(f.getModifiers());
            Check.isSo("1: " + f, isNone ? isPublic : java.lang.reflect.Modifier.isPrivate(f.getModifiers()));
        }
        Check.isSo("1: public and final", java.lang.reflect.Modifier.isFinal(CountedTwice.class.getModifiers()));
    }

    /** What the source has, gathered in one walk. */
    private static final class Walk extends TreePathScanner<Void, Void> {
        final Trees trees;
        final CompilationUnitTree unit;
        final SourcePositions positions;
        final Set<String> publicNames = new HashSet<>();
        final Map<Element, Set<Element>> calls = new LinkedHashMap<>();
        final List<String> classes = new ArrayList<>();
        private Element method = null;

        Walk(Trees trees, CompilationUnitTree unit) {
            this.trees = trees;
            this.unit = unit;
            positions = trees.getSourcePositions();
            for (String f : FACE) {
                publicNames.add(f.substring(f.indexOf(' ') + 1, f.indexOf('(')));
            }
        }

        private int lines(Tree tree) {
            long from = positions.getStartPosition(unit, tree);
            long to = positions.getEndPosition(unit, tree);
            return (int) (unit.getLineMap().getLineNumber(to) - unit.getLineMap().getLineNumber(from) + 1);
        }

        private void never(String rule, Tree tree) {
            Check.isSo(rule + ": not allowed: " + tree, false);
        }

        @Override
        public Void visitClass(ClassTree tree, Void none) {
            classes.add(tree.getSimpleName().toString());
            boolean outer = getCurrentPath().getParentPath().getLeaf() instanceof CompilationUnitTree;
            Set<Modifier> how = tree.getModifiers().getFlags();
            Check.isSo("2: static inside: " + tree.getSimpleName(), outer || how.contains(Modifier.STATIC));
            Check.isSo("2: a name: " + tree.getSimpleName(), tree.getSimpleName().length() > 0);
            int fields = 0;
            for (Tree member : tree.getMembers()) {
                if (member instanceof VariableTree) {
                    Set<Modifier> its = ((VariableTree) member).getModifiers().getFlags();
                    Check.isSo("5: final: " + member, !its.contains(Modifier.STATIC) || its.contains(Modifier.FINAL));
                    fields += its.contains(Modifier.STATIC) ? 0 : 1;
                }
                Check.isSo("5: no initialiser block", member.getKind() != Tree.Kind.BLOCK);
            }
            Check.isSo("11: " + fields + " fields in " + tree.getSimpleName(), fields <= 20);
            return super.visitClass(tree, none);
        }

        @Override
        public Void visitMethod(MethodTree tree, Void none) {
            Element before = method;
            method = trees.getElement(getCurrentPath());
            calls.putIfAbsent(method, new LinkedHashSet<>());
            boolean isPublic = method.getModifiers().contains(Modifier.PUBLIC);
            Check.isSo("1: " + method + " bears a public one's name", isPublic || !publicNames.contains(tree.getName().toString()));
            Check.isSo("11: parameters of " + method, tree.getParameters().size() <= 7);
            Check.isSo("11: " + method + " has " + lines(tree) + " lines", lines(tree) <= 60);
            super.visitMethod(tree, none);
            method = before;
            return null;
        }

        private void called(Element what, Tree tree) {
            if (what == null) {
                never("a call that is not known", tree);
                return;
            }
            Element owner = what.getEnclosingElement();
            boolean own = owner.toString().startsWith("CountedTwice");
            String name = owner + "." + what.getSimpleName();
            Check.isSo("4: library: " + name, own || LIBRARY.contains(name));
            if (own && method != null) {
                calls.get(method).add(what);
            }
        }

        @Override
        public Void visitMethodInvocation(MethodInvocationTree tree, Void none) {
            called(trees.getElement(new TreePath(getCurrentPath(), tree.getMethodSelect())), tree);
            return super.visitMethodInvocation(tree, none);
        }

        @Override
        public Void visitNewClass(NewClassTree tree, Void none) {
            Check.isSo("2: no anonymous class", tree.getClassBody() == null);
            called(trees.getElement(getCurrentPath()), tree);
            boolean inConstructor = method != null && method.getKind() == ElementKind.CONSTRUCTOR;
            Check.isSo("12: objects are made by constructors: " + tree, inConstructor);
            return super.visitNewClass(tree, none);
        }

        @Override
        public Void visitNewArray(com.sun.source.tree.NewArrayTree tree, Void none) {
            boolean inConstructor = method != null && method.getKind() == ElementKind.CONSTRUCTOR;
            Check.isSo("12: arrays are made by constructors: " + tree, inConstructor);
            return super.visitNewArray(tree, none);
        }

        @Override
        public Void visitImport(ImportTree tree, Void none) {
            Check.isSo("4: " + tree, tree.getQualifiedIdentifier().toString().equals("java.util.Arrays"));
            return super.visitImport(tree, none);
        }

        @Override
        public Void visitLambdaExpression(LambdaExpressionTree tree, Void none) {
            never("2", tree);
            return null;
        }

        @Override
        public Void visitMemberReference(MemberReferenceTree tree, Void none) {
            never("2", tree);
            return null;
        }

        @Override
        public Void visitThrow(ThrowTree tree, Void none) {
            never("6", tree);
            return null;
        }

        @Override
        public Void visitTry(TryTree tree, Void none) {
            never("6", tree);
            return null;
        }

        @Override
        public Void visitCatch(CatchTree tree, Void none) {
            never("6", tree);
            return null;
        }

        @Override
        public Void visitSynchronized(SynchronizedTree tree, Void none) {
            never("6", tree);
            return null;
        }

        @Override
        public Void visitAssert(AssertTree tree, Void none) {
            never("6", tree);
            return null;
        }
    }

    /** How many calls stand open at most below a method, each method of a recursion counted once. */
    private static int depth(Element at, Map<Element, Set<Element>> calls, Map<Element, Integer> open, List<String> path) {
        int deepest = 0;
        open.put(at, 1);
        for (Element next : calls.getOrDefault(at, Set.of())) {
            if (!open.containsKey(next)) {
                List<String> below = new ArrayList<>();
                int here = depth(next, calls, open, below);
                if (here > deepest) {
                    deepest = here;
                    path.clear();
                    path.addAll(below);
                }
            }
        }
        open.remove(at);
        path.add(0, at.getSimpleName().toString());
        return deepest + 1;
    }

    private static void rules() throws Exception {
        JavaCompiler compiler = ToolProvider.getSystemJavaCompiler();
        try (StandardJavaFileManager files = compiler.getStandardFileManager(null, null, null)) {
            JavacTask task = (JavacTask) compiler.getTask(null, files, null, List.of("-proc:none"), null,
                    files.getJavaFileObjects(new File(SOURCE)));
            CompilationUnitTree unit = task.parse().iterator().next();
            task.analyze();
            Check.isSo("no package line", unit.getPackageName() == null);
            Walk walk = new Walk(Trees.instance(task), unit);
            walk.scan(unit, null);
            Check.isSo("11: " + walk.classes, walk.classes.size() <= 12);
            for (Element method : walk.calls.keySet()) {
                if (method.getModifiers().contains(Modifier.PUBLIC)) {
                    List<String> path = new ArrayList<>();
                    int deep = depth(method, walk.calls, new HashMap<>(), path);
                    Check.isSo("11: " + deep + " deep: " + path, deep <= 8);
                }
            }
        }
    }

    public static void main(String[] args) throws Exception {
        face();
        rules();
        Check.close("LanguageTest");
    }
}
