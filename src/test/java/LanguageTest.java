import com.sun.source.tree.AssertTree;
import com.sun.source.tree.BinaryTree;
import com.sun.source.tree.ClassTree;
import com.sun.source.tree.CompilationUnitTree;
import com.sun.source.tree.ImportTree;
import com.sun.source.tree.InstanceOfTree;
import com.sun.source.tree.LambdaExpressionTree;
import com.sun.source.tree.MemberReferenceTree;
import com.sun.source.tree.MethodInvocationTree;
import com.sun.source.tree.MethodTree;
import com.sun.source.tree.NewArrayTree;
import com.sun.source.tree.NewClassTree;
import com.sun.source.tree.SynchronizedTree;
import com.sun.source.tree.ThrowTree;
import com.sun.source.tree.Tree;
import com.sun.source.tree.TryTree;
import com.sun.source.tree.TypeCastTree;
import com.sun.source.tree.VariableTree;
import com.sun.source.tree.WhileLoopTree;
import com.sun.source.util.JavacTask;
import com.sun.source.util.SourcePositions;
import com.sun.source.util.TreePath;
import com.sun.source.util.TreePathScanner;
import com.sun.source.util.Trees;
import java.io.File;
import java.io.IOException;
import java.util.ArrayList;
import java.util.HashMap;
import java.util.List;
import java.util.Map;
import java.util.Set;
import java.util.TreeSet;
import javax.lang.model.element.Element;
import javax.lang.model.element.ElementKind;
import javax.lang.model.element.ExecutableElement;
import javax.lang.model.element.Modifier;
import javax.lang.model.element.TypeElement;
import javax.lang.model.type.ArrayType;
import javax.lang.model.type.TypeKind;
import javax.lang.model.type.TypeMirror;
import javax.lang.model.util.Elements;
import javax.tools.JavaCompiler;
import javax.tools.StandardJavaFileManager;
import javax.tools.ToolProvider;

/** The rules of LANGUAGE.md that can be seen in the program as the compiler reads it. */
public final class LanguageTest extends TreePathScanner<Void, Void> {
    private static final String SOURCE = "src/main/java/WingDoor.java";
    private static final int MOST_CLASSES = 12, MOST_FIELDS = 20, MOST_PARAMETERS = 7, MOST_LINES = 60, MOST_DEEP = 8;

    /** Of rule 4, what the program uses. */
    private static final Set<String> LIBRARY = Set.of("java.util.Arrays.fill(long[],long)",
        "java.lang.System.arraycopy(java.lang.Object,int,java.lang.Object,int,int)", "java.lang.Integer.bitCount(int)",
        "java.lang.Math.max(int,int)", "java.lang.Math.max(long,long)", "java.lang.Math.min(int,int)");
    private static final Set<String> STATIC_TYPES = Set.of("int", "long", "boolean", "char", "java.lang.String",
        "int[]", "long[]", "char[]", "byte[]");

    private final CompilationUnitTree unit;
    private final Trees trees;
    private final SourcePositions places;
    private final Elements elements;
    private final Map<String, Set<String>> calls = new HashMap<>();
    private final Map<String, ExecutableElement> methods = new HashMap<>();
    private final List<TypeElement> classes = new ArrayList<>();

    private LanguageTest(CompilationUnitTree unit, JavacTask task) {
        this.unit = unit;
        trees = Trees.instance(task);
        places = trees.getSourcePositions();
        elements = task.getElements();
    }

    public static void main(String[] args) throws IOException {
        JavaCompiler compiler = ToolProvider.getSystemJavaCompiler();
        StandardJavaFileManager files = compiler.getStandardFileManager(null, null, null);
        JavacTask task = (JavacTask) compiler.getTask(null, files, null, List.of("-proc:none"), null,
            files.getJavaFileObjects(new File(SOURCE)));
        CompilationUnitTree unit = task.parse().iterator().next();
        task.analyze();
        LanguageTest test = new LanguageTest(unit, task);
        test.scan(unit, null);
        test.callsGoEightDeep();
        test.manyClasses();
        Script.end();
    }

    private void holds(String rule, Tree where, boolean so) {
        long line = where == null ? 0 : unit.getLineMap().getLineNumber(places.getStartPosition(unit, where));
        Script.due("LANGUAGE.md", rule + " (line " + line + ")", so ? 1 : 0, 1);
    }

    private Element here() {
        return trees.getElement(getCurrentPath());
    }

    @Override
    public Void visitCompilationUnit(CompilationUnitTree tree, Void none) {
        holds("no package line", tree, tree.getPackageName() == null);
        holds("one public class alone", tree, tree.getTypeDecls().size() == 1);
        return super.visitCompilationUnit(tree, none);
    }

    @Override
    public Void visitImport(ImportTree tree, Void none) {
        holds("4: no import but Arrays", tree, tree.toString().strip().equals("import java.util.Arrays;"));
        return super.visitImport(tree, none);
    }

    @Override
    public Void visitClass(ClassTree tree, Void none) {
        TypeElement type = (TypeElement) here();
        classes.add(type);
        boolean outer = type.getEnclosingElement().getKind() == ElementKind.PACKAGE;
        boolean nested = type.getEnclosingElement().getKind().isClass();
        holds("2: no local or anonymous class", tree, outer || nested);
        holds("2: a class inside is static", tree, outer || type.getModifiers().contains(Modifier.STATIC));
        int fields = 0;
        for (Element member : type.getEnclosedElements()) {
            boolean constant = member.getModifiers().contains(Modifier.STATIC);
            fields += member.getKind() == ElementKind.FIELD && !constant ? 1 : 0;
            holds("5: no static initialiser block", tree, member.getKind() != ElementKind.STATIC_INIT);
        }
        holds("11: some twenty fields at most", tree, fields <= MOST_FIELDS);
        return super.visitClass(tree, none);
    }

    private void manyClasses() {
        holds("11: some twelve classes at most", null, classes.size() <= MOST_CLASSES);
    }

    @Override
    public Void visitMethod(MethodTree tree, Void none) {
        ExecutableElement method = (ExecutableElement) here();
        methods.put(told(method), method);
        calls.computeIfAbsent(told(method), m -> new TreeSet<>());
        holds("11: seven parameters at most", tree, tree.getParameters().size() <= MOST_PARAMETERS);
        long first = unit.getLineMap().getLineNumber(Math.max(0, places.getStartPosition(unit, tree)));
        long last = unit.getLineMap().getLineNumber(Math.max(0, places.getEndPosition(unit, tree)));
        holds("11: sixty lines at most", tree, last - first < MOST_LINES);
        return super.visitMethod(tree, none);
    }

    @Override
    public Void visitVariable(VariableTree tree, Void none) {
        Element variable = here();
        holds("3: a type that may be", tree, mayBe(variable.asType()));
        if (variable.getModifiers().contains(Modifier.STATIC)) {
            holds("5: a static field is final", tree, variable.getModifiers().contains(Modifier.FINAL));
            holds("5: a static field's type", tree, STATIC_TYPES.contains(variable.asType().toString()));
        }
        return super.visitVariable(tree, none);
    }

    private static boolean mayBe(TypeMirror type) {
        if (type.getKind() == TypeKind.ARRAY) {
            TypeMirror part = ((ArrayType) type).getComponentType();
            boolean ofNumbers = part.getKind() == TypeKind.ARRAY
                && ((ArrayType) part).getComponentType().getKind().isPrimitive();
            return ofNumbers || part.getKind() != TypeKind.ARRAY && mayBe(part);
        }
        String name = type.toString();
        return type.getKind().isPrimitive() || name.equals("WingDoor") || name.startsWith("WingDoor.")
            || name.equals("java.lang.String") || name.equals("java.lang.StringBuilder");
    }

    @Override
    public Void visitMethodInvocation(MethodInvocationTree tree, Void none) {
        TreePath path = new TreePath(getCurrentPath(), tree.getMethodSelect());
        ExecutableElement called = (ExecutableElement) trees.getElement(path);
        if (called.getKind() != ElementKind.CONSTRUCTOR) {
            boolean own = told(called).startsWith("WingDoor.");
            holds("4: no library but what it lists: " + told(called), tree, own || LIBRARY.contains(told(called)));
            note(called);
        }
        return super.visitMethodInvocation(tree, none);
    }

    @Override
    public Void visitNewClass(NewClassTree tree, Void none) {
        note((ExecutableElement) here());
        holds("12: rows are made in constructors", tree, madeAtFirst());
        return super.visitNewClass(tree, none);
    }

    @Override
    public Void visitNewArray(NewArrayTree tree, Void none) {
        holds("12: rows are made in constructors", tree, madeAtFirst());
        return super.visitNewArray(tree, none);
    }

    /** Not by a method: by a constructor, or where a field is told. */
    private boolean madeAtFirst() {
        MethodTree method = methodAround();
        return method == null || method.getReturnType() == null;
    }

    private MethodTree methodAround() {
        for (TreePath path = getCurrentPath(); path != null; path = path.getParentPath()) {
            if (path.getLeaf() instanceof MethodTree method) {
                return method;
            }
        }
        return null;
    }

    private void note(ExecutableElement called) {
        MethodTree around = methodAround();
        if (around != null) {
            ExecutableElement caller = (ExecutableElement) trees.getElement(trees.getPath(unit, around));
            calls.computeIfAbsent(told(caller), m -> new TreeSet<>()).add(told(called));
            methods.put(told(called), called);
        }
    }

    private static String told(ExecutableElement method) {
        return method.getEnclosingElement() + "." + method;
    }

    private void callsGoEightDeep() {
        for (String method : new TreeSet<>(calls.keySet())) {
            int deep = depth(method, new ArrayList<>());
            holds("11: at most eight deep: " + method, null, deep <= MOST_DEEP);
        }
    }

    private int depth(String method, List<String> open) {
        if (open.contains(method)) {
            holds("8: no recursion: " + method + " in " + open, null, false);
            return 0;
        }
        open.add(method);
        int deepest = 0;
        for (String called : calls.getOrDefault(method, Set.of())) {
            for (String body : bodiesOf(called, method)) {
                deepest = Math.max(deepest, depth(body, open));
            }
        }
        open.remove(method);
        return deepest + 1;
    }

    /** A method that others override may mean any of them, unless its overrider asks it, by super. */
    private Set<String> bodiesOf(String called, String caller) {
        Set<String> bodies = new TreeSet<>(Set.of(called));
        if (overrides(methods.get(caller), methods.get(called))) {
            return bodies;
        }
        for (Map.Entry<String, ExecutableElement> each : methods.entrySet()) {
            if (overrides(each.getValue(), methods.get(called))) {
                bodies.add(each.getKey());
            }
        }
        return bodies;
    }

    private boolean overrides(ExecutableElement one, ExecutableElement other) {
        return elements.overrides(one, other, (TypeElement) one.getEnclosingElement());
    }

    @Override
    public Void visitBinary(BinaryTree tree, Void none) {
        TypeMirror left = trees.getTypeMirror(new TreePath(getCurrentPath(), tree.getLeftOperand()));
        TypeMirror right = trees.getTypeMirror(new TreePath(getCurrentPath(), tree.getRightOperand()));
        holds("10: no text is joined or compared by a sign", tree, left.getKind() != TypeKind.DECLARED
            && right.getKind() != TypeKind.DECLARED);
        return super.visitBinary(tree, none);
    }

    @Override
    public Void visitTypeCast(TypeCastTree tree, Void none) {
        holds("6: no cast of objects", tree, trees.getTypeMirror(getCurrentPath()).getKind().isPrimitive());
        return super.visitTypeCast(tree, none);
    }

    @Override
    public Void visitWhileLoop(WhileLoopTree tree, Void none) {
        // A counter against a bound: each such loop goes on in THE TEXT.
        holds("9: the loop's end", tree, tree.getCondition().toString().startsWith("(at < length && "));
        return super.visitWhileLoop(tree, none);
    }

    @Override
    public Void visitLambdaExpression(LambdaExpressionTree tree, Void none) {
        holds("2: no lambda", tree, false);
        return null;
    }

    @Override
    public Void visitMemberReference(MemberReferenceTree tree, Void none) {
        holds("2: no method reference", tree, false);
        return null;
    }

    @Override
    public Void visitInstanceOf(InstanceOfTree tree, Void none) {
        holds("6: instanceof isn't used", tree, false);
        return null;
    }

    @Override
    public Void visitThrow(ThrowTree tree, Void none) {
        holds("6: no throw", tree, false);
        return null;
    }

    @Override
    public Void visitTry(TryTree tree, Void none) {
        holds("6: no try, no catch", tree, false);
        return null;
    }

    @Override
    public Void visitSynchronized(SynchronizedTree tree, Void none) {
        holds("6: no synchronized", tree, false);
        return null;
    }

    @Override
    public Void visitAssert(AssertTree tree, Void none) {
        holds("6: no assert", tree, false);
        return null;
    }
}
