import com.sun.source.tree.AssertTree;
import com.sun.source.tree.BlockTree;
import com.sun.source.tree.CatchTree;
import com.sun.source.tree.ClassTree;
import com.sun.source.tree.CompilationUnitTree;
import com.sun.source.tree.LambdaExpressionTree;
import com.sun.source.tree.MemberReferenceTree;
import com.sun.source.tree.MemberSelectTree;
import com.sun.source.tree.MethodInvocationTree;
import com.sun.source.tree.MethodTree;
import com.sun.source.tree.NewArrayTree;
import com.sun.source.tree.NewClassTree;
import com.sun.source.tree.SynchronizedTree;
import com.sun.source.tree.ThrowTree;
import com.sun.source.tree.Tree;
import com.sun.source.tree.TryTree;
import com.sun.source.tree.VariableTree;
import com.sun.source.tree.WhileLoopTree;
import com.sun.source.util.JavacTask;
import com.sun.source.util.TreePath;
import com.sun.source.util.TreePathScanner;
import com.sun.source.util.Trees;
import java.io.File;
import java.lang.reflect.Constructor;
import java.lang.reflect.Field;
import java.lang.reflect.Method;
import java.lang.reflect.Modifier;
import java.util.HashMap;
import java.util.HashSet;
import java.util.List;
import java.util.Map;
import java.util.Set;
import java.util.TreeMap;
import java.util.TreeSet;
import javax.lang.model.element.Element;
import javax.lang.model.element.ExecutableElement;
import javax.tools.JavaCompiler;
import javax.tools.StandardJavaFileManager;
import javax.tools.ToolProvider;

/** What can be checked of LANGUAGE.md: the face, the forms that are left out, sizes, the library, depth of calls. */
public final class PuntYardLanguage {
    private static final String SOURCE = "src/main/java/PuntYard.java";
    private static final String FACE = "feed law fault rule water rain boat free out back mend swamp cushions weed cut hire "
        + "known bill outs takings differ cost worst together worn old doubt queue chance keep least protect roll rolled "
        + "guide party guided pay earned pass pole paint painted fail renew loyal tout nest regatta barred image restore count";
    private static final Set<String> LIBRARY = Set.of("java.lang.Math.max", "java.lang.Math.min",
        "java.lang.Integer.compare", "java.lang.Integer.bitCount", "java.lang.System.arraycopy", "java.util.Arrays.fill",
        "java.lang.String.charAt");
    // Only these make objects behind the constructor, each at most as often as the document's limit allows.
    private static final Set<String> MAKERS = Set.of("law", "image");
    private static int wrong = 0;

    private static void complain(String what) {
        wrong++;
        System.out.println(what);
    }

    public static void main(String[] args) throws Exception {
        checkFace();
        checkSource();
        System.out.println(wrong == 0 ? "the language is kept to" : wrong + " faults of language");
        if (wrong != 0) {
            System.exit(1);
        }
    }

    private static void checkFace() {
        Set<String> names = new TreeSet<>();
        Set<String> hidden = new TreeSet<>();
        for (Method method : PuntYard.class.getDeclaredMethods()) {
            if (Modifier.isPublic(method.getModifiers())) {
                names.add(method.getName());
            } else if (Modifier.isPrivate(method.getModifiers())) {
                hidden.add(method.getName());
            } else {
                complain("rule 1: " + method);
            }
        }
        if (!names.equals(new TreeSet<>(List.of(FACE.split(" "))))) {
            complain("rule 1: the face is " + names);
        }
        for (Class<?> inner : PuntYard.class.getDeclaredClasses()) {
            if (!Modifier.isPrivate(inner.getModifiers()) || !Modifier.isStatic(inner.getModifiers())) {
                complain("rule 1: " + inner);
            }
            for (Method method : inner.getDeclaredMethods()) {
                hidden.add(method.getName());
            }
        }
        hidden.retainAll(names);
        if (!hidden.isEmpty()) {
            complain("rule 1: names of the face are used again: " + hidden);
        }
        for (Field field : PuntYard.class.getDeclaredFields()) {
            boolean isFace = field.getName().equals("NONE");
            if (isFace != Modifier.isPublic(field.getModifiers()) || !isFace && !Modifier.isPrivate(field.getModifiers())) {
                complain("rule 1: " + field);
            }
        }
        for (Constructor<?> made : PuntYard.class.getDeclaredConstructors()) {
            if (!Modifier.isPublic(made.getModifiers()) || made.getParameterCount() != 0) {
                complain("rule 1: " + made);
            }
        }
        if (!Modifier.isFinal(PuntYard.class.getModifiers())) {
            complain("rule 1: the class isn't final");
        }
    }

    private static void checkSource() throws Exception {
        JavaCompiler compiler = ToolProvider.getSystemJavaCompiler();
        StandardJavaFileManager files = compiler.getStandardFileManager(null, null, null);
        JavacTask task = (JavacTask) compiler.getTask(null, files, null, List.of("-proc:none"), null,
            files.getJavaFileObjects(new File(SOURCE)));
        CompilationUnitTree unit = task.parse().iterator().next();
        task.analyze();
        Looker looker = new Looker(unit, Trees.instance(task));
        looker.scan(unit, null);
        if (looker.classes > 12) {
            complain("rule 11: " + looker.classes + " classes");
        }
        checkDepth(looker.calls);
    }

    /** Looks at every piece of the source. */
    private static final class Looker extends TreePathScanner<Void, Void> {
        private final CompilationUnitTree unit;
        private final Trees trees;
        private int classes = 0;
        private String method = "";
        private String place = "";
        private final Map<String, Set<String>> calls = new TreeMap<>();

        Looker(CompilationUnitTree unit, Trees trees) {
            this.unit = unit;
            this.trees = trees;
        }

        private long line(Tree tree, boolean end) {
            long at = end ? trees.getSourcePositions().getEndPosition(unit, tree)
                : trees.getSourcePositions().getStartPosition(unit, tree);
            return unit.getLineMap().getLineNumber(at);
        }

        private void refuse(int rule, Tree tree) {
            complain("rule " + rule + ", line " + line(tree, false) + ": " + tree.getKind());
        }

        private static String name(Element element) {
            return element.getEnclosingElement() + "." + element.getSimpleName();
        }

        @Override
        public Void visitClass(ClassTree tree, Void v) {
            classes++;
            int fields = 0;
            for (Tree member : tree.getMembers()) {
                if (member instanceof VariableTree field) {
                    boolean isStatic = field.getModifiers().getFlags().contains(javax.lang.model.element.Modifier.STATIC);
                    fields += isStatic ? 0 : 1;
                    if (isStatic && !field.getModifiers().getFlags().contains(javax.lang.model.element.Modifier.FINAL)) {
                        refuse(5, member);
                    }
                }
                if (member instanceof BlockTree) {
                    refuse(5, member);
                }
            }
            if (fields > 20) {
                complain("rule 11: " + tree.getSimpleName() + " has " + fields + " fields");
            }
            return super.visitClass(tree, v);
        }

        @Override
        public Void visitMethod(MethodTree tree, Void v) {
            if (tree.getParameters().size() > 7 || line(tree, true) - line(tree, false) >= 60) {
                complain("rule 11: " + tree.getName() + " is too long");
            }
            method = tree.getName().toString();
            place = name(trees.getElement(getCurrentPath()));
            calls.computeIfAbsent(place, k -> new HashSet<>());
            super.visitMethod(tree, v);
            method = "";
            place = "";
            return null;
        }

        @Override
        public Void visitMethodInvocation(MethodInvocationTree tree, Void v) {
            Element element = trees.getElement(new TreePath(getCurrentPath(), tree.getMethodSelect()));
            String called = element instanceof ExecutableElement ? name(element) : "?";
            boolean isOwn = called.startsWith("PuntYard");
            boolean isSuper = called.equals("java.lang.Object.<init>");
            if (!isOwn && !isSuper && !LIBRARY.contains(called)) {
                complain("rule 4, line " + line(tree, false) + ": " + called);
            }
            if (isOwn && !place.isEmpty()) {
                calls.get(place).add(called);
            }
            return super.visitMethodInvocation(tree, v);
        }

        @Override
        public Void visitMemberSelect(MemberSelectTree tree, Void v) {
            Element element = trees.getElement(getCurrentPath());
            if (element != null && element.getKind().isField() && name(element).startsWith("java.")) {
                complain("rule 4, line " + line(tree, false) + ": " + name(element));
            }
            return super.visitMemberSelect(tree, v);
        }

        @Override
        public Void visitNewArray(NewArrayTree tree, Void v) {
            if (!method.isEmpty()) {
                refuse(12, tree);
            }
            return super.visitNewArray(tree, v);
        }

        @Override
        public Void visitNewClass(NewClassTree tree, Void v) {
            if (tree.getClassBody() != null || !method.isEmpty() && !MAKERS.contains(method)) {
                refuse(12, tree);
            }
            return super.visitNewClass(tree, v);
        }

        @Override
        public Void visitWhileLoop(WhileLoopTree tree, Void v) {
            refuse(9, tree);
            return super.visitWhileLoop(tree, v);
        }

        @Override
        public Void visitLambdaExpression(LambdaExpressionTree tree, Void v) {
            refuse(2, tree);
            return null;
        }

        @Override
        public Void visitMemberReference(MemberReferenceTree tree, Void v) {
            refuse(2, tree);
            return null;
        }

        @Override
        public Void visitThrow(ThrowTree tree, Void v) {
            refuse(6, tree);
            return null;
        }

        @Override
        public Void visitTry(TryTree tree, Void v) {
            refuse(6, tree);
            return null;
        }

        @Override
        public Void visitCatch(CatchTree tree, Void v) {
            refuse(6, tree);
            return null;
        }

        @Override
        public Void visitSynchronized(SynchronizedTree tree, Void v) {
            refuse(6, tree);
            return null;
        }

        @Override
        public Void visitAssert(AssertTree tree, Void v) {
            refuse(6, tree);
            return null;
        }
    }

    private static void checkDepth(Map<String, Set<String>> calls) {
        for (String first : calls.keySet()) {
            int depth = depth(first, calls, new HashSet<>(), new HashMap<>());
            if (depth > 8) {
                complain("rule 11: calls go " + depth + " deep from " + first);
            }
        }
    }

    // A call of what stands open already is recursion and counts once.
    private static int depth(String at, Map<String, Set<String>> calls, Set<String> open, Map<String, Integer> known) {
        if (known.containsKey(at)) {
            return known.get(at);
        }
        int most = 0;
        open.add(at);
        for (String next : calls.getOrDefault(at, Set.of())) {
            if (!open.contains(next)) {
                most = Math.max(most, depth(next, calls, open, new HashMap<>()));
            }
        }
        open.remove(at);
        known.put(at, most + 1);
        return most + 1;
    }
}
