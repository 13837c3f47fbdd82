import com.sun.source.tree.*;
import com.sun.source.util.JavacTask;
import com.sun.source.util.TreePath;
import com.sun.source.util.TreePathScanner;
import com.sun.source.util.Trees;
import java.io.File;
import java.util.*;
import javax.lang.model.element.*;
import javax.lang.model.type.TypeKind;
import javax.lang.model.type.TypeMirror;
import javax.tools.*;

/** What of ../shared/LANGUAGE.md can be seen by the compiler's own tree of the class. */
public final class LanguageRules extends TreePathScanner<Void, Void> {
    private static final String FILE = "src/main/java/ReasonsSupplied.java";
    private static final int MOST_LINES = 60;
    private static final int MOST_PARAMETERS = 7;
    private static final int MOST_CLASSES = 12;
    private static final int MOST_FIELDS = 20;
    private static final int MOST_DEEP = 8;
    private static final Set<String> LIBRARY = Set.of(
        "java.lang.Object.<init>", "java.lang.System.arraycopy", "java.util.Arrays.fill", "java.lang.String.indexOf",
        "java.lang.Integer.bitCount", "java.lang.Math.max", "java.lang.Math.min", "java.lang.Math.abs",
        "java.util.NoSuchElementException.<init>");
    private static final Set<String> TYPES = Set.of("int", "long", "char", "byte", "short", "boolean", "void",
        "int[]", "long[]", "char[]", "java.lang.String", "java.util.NoSuchElementException");

    private final Trees trees;
    private final CompilationUnitTree unit;
    private final List<String> faults = new ArrayList<>();
    private final Map<ExecutableElement, Set<ExecutableElement>> calls = new LinkedHashMap<>();
    private final Map<ExecutableElement, TreePath> methods = new LinkedHashMap<>();
    private final Set<String> publicNames = new HashSet<>();
    private int classes;

    private LanguageRules(Trees trees, CompilationUnitTree unit) {
        this.trees = trees;
        this.unit = unit;
    }

    public static void main(String[] args) throws Exception {
        JavaCompiler compiler = ToolProvider.getSystemJavaCompiler();
        StandardJavaFileManager manager = compiler.getStandardFileManager(null, null, null);
        JavacTask task = (JavacTask) compiler.getTask(null, manager, null, List.of("-proc:none"), null,
            manager.getJavaFileObjectsFromFiles(List.of(new File(FILE))));
        CompilationUnitTree unit = task.parse().iterator().next();
        task.analyze();
        LanguageRules rules = new LanguageRules(Trees.instance(task), unit);
        rules.scan(unit, null);
        rules.afterAll();
        for (String fault : rules.faults) {
            System.out.println(fault);
        }
        System.out.println(rules.faults.isEmpty() ? "the class keeps to the language" : rules.faults.size() + " faults");
        if (!rules.faults.isEmpty()) {
            System.exit(1);
        }
    }

    private void fault(String what) {
        fault(what, getCurrentPath());
    }

    private void fault(String what, TreePath where) {
        long at = where == null ? 0 : line(trees.getSourcePositions().getStartPosition(unit, where.getLeaf()));
        faults.add("line " + at + ": " + what);
    }

    private long line(long position) {
        return unit.getLineMap().getLineNumber(position);
    }

    private void afterAll() {
        if (classes > MOST_CLASSES) {
            faults.add("rule 11: " + classes + " classes");
        }
        for (ExecutableElement m : methods.keySet()) {
            if (m.getModifiers().contains(Modifier.PRIVATE) && publicNames.contains(m.getSimpleName().toString())) {
                fault("rule 1: a private method bears a public one's name: " + m, methods.get(m));
            }
            int deep = depth(m, new ArrayDeque<>());
            if (deep > MOST_DEEP) {
                fault("rule 11: " + m + " calls " + deep + " deep", methods.get(m));
            }
        }
    }

    /** How many calls stand open at most, this one counted; a library's call is not. */
    private int depth(ExecutableElement m, Deque<ExecutableElement> open) {
        if (open.contains(m)) {
            faults.add("rule 8: " + m + " calls itself");
            return 0;
        }
        open.push(m);
        int most = 0;
        for (ExecutableElement called : calls.getOrDefault(m, Set.of())) {
            most = Math.max(most, depth(called, open));
            for (ExecutableElement other : methods.keySet()) {
                boolean overrides = !other.equals(called) && called.getModifiers().contains(Modifier.ABSTRACT)
                    && other.getSimpleName().equals(called.getSimpleName());
                most = overrides ? Math.max(most, depth(other, open)) : most;
            }
        }
        open.pop();
        return 1 + most;
    }

    @Override
    public Void visitClass(ClassTree node, Void none) {
        classes++;
        Element it = trees.getElement(getCurrentPath());
        boolean outer = it.getEnclosingElement().getKind() == ElementKind.PACKAGE;
        if (!outer && !it.getModifiers().contains(Modifier.STATIC)) {
            fault("rule 1: a class inside that is not static");
        }
        int fields = 0;
        for (Element member : it.getEnclosedElements()) {
            boolean constant = member.getModifiers().containsAll(Set.of(Modifier.STATIC, Modifier.FINAL));
            fields += member.getKind() == ElementKind.FIELD && !constant ? 1 : 0;
            if (member.getKind() == ElementKind.FIELD && member.getModifiers().contains(Modifier.STATIC) && !constant) {
                fault("rule 5: a static field that is not final: " + member);
            }
            boolean shown = member.getModifiers().contains(Modifier.PUBLIC);
            boolean hidden = member.getModifiers().contains(Modifier.PRIVATE);
            boolean inside = member.getKind() == ElementKind.CLASS;
            if (outer && !shown && !hidden && !inside) {
                fault("rule 1: a member that is neither public nor private: " + member);
            }
            if (outer && shown && member.getKind() == ElementKind.METHOD) {
                publicNames.add(member.getSimpleName().toString());
            }
        }
        if (fields > MOST_FIELDS) {
            fault("rule 11: " + fields + " fields");
        }
        return super.visitClass(node, none);
    }

    @Override
    public Void visitMethod(MethodTree node, Void none) {
        ExecutableElement it = (ExecutableElement) trees.getElement(getCurrentPath());
        methods.put(it, getCurrentPath());
        if (node.getParameters().size() > MOST_PARAMETERS) {
            fault("rule 11: too many parameters: " + it);
        }
        long first = line(trees.getSourcePositions().getStartPosition(unit, node));
        long last = line(Math.max(0, trees.getSourcePositions().getEndPosition(unit, node)));
        if (last - first >= MOST_LINES) {
            fault("rule 11: too long: " + it);
        }
        return super.visitMethod(node, none);
    }

    private ExecutableElement caller() {
        for (TreePath p = getCurrentPath(); p != null; p = p.getParentPath()) {
            if (p.getLeaf() instanceof MethodTree) {
                return (ExecutableElement) trees.getElement(p);
            }
        }
        return null;
    }

    private void called(Element what) {
        ExecutableElement it = (ExecutableElement) what;
        TypeElement of = (TypeElement) it.getEnclosingElement();
        String name = of.getQualifiedName() + "." + it.getSimpleName();
        if (!of.getQualifiedName().toString().startsWith("ReasonsSupplied")) {
            if (!LIBRARY.contains(name)) {
                fault("rule 4: " + name);
            }
            return;
        }
        if (caller() != null) {
            calls.computeIfAbsent(caller(), c -> new LinkedHashSet<>()).add(it);
        }
    }

    @Override
    public Void visitMethodInvocation(MethodInvocationTree node, Void none) {
        called(trees.getElement(getCurrentPath()));
        return super.visitMethodInvocation(node, none);
    }

    @Override
    public Void visitNewClass(NewClassTree node, Void none) {
        called(trees.getElement(getCurrentPath()));
        for (TreePath p = getCurrentPath(); p != null; p = p.getParentPath()) {
            boolean call = p.getLeaf() instanceof MethodTree && !((MethodTree) p.getLeaf()).getName().contentEquals("<init>");
            if (call && !(getCurrentPath().getParentPath().getLeaf() instanceof ThrowTree)) {
                fault("an object made by a call, not by a constructor");
            }
        }
        return super.visitNewClass(node, none);
    }

    @Override
    public Void visitNewArray(NewArrayTree node, Void none) {
        if (caller() != null && !caller().getSimpleName().contentEquals("<init>")) {
            fault("an array made by a call, not by a constructor");
        }
        return super.visitNewArray(node, none);
    }

    @Override
    public Void visitThrow(ThrowTree node, Void none) {
        if (!(node.getExpression() instanceof NewClassTree) || caller().getSimpleName().contentEquals("<init>")) {
            fault("rule 6: " + node);
        }
        return super.visitThrow(node, none);
    }

    @Override
    public Void visitVariable(VariableTree node, Void none) {
        TypeMirror type = trees.getElement(getCurrentPath()).asType();
        boolean own = type.toString().startsWith("ReasonsSupplied.") && type.getKind() == TypeKind.DECLARED;
        if (!own && !TYPES.contains(type.toString())) {
            fault("rule 3: " + type);
        }
        return super.visitVariable(node, none);
    }

    @Override
    public Void visitBinary(BinaryTree node, Void none) {
        String type = trees.getTypeMirror(getCurrentPath()).toString();
        if (type.equals("java.lang.String")) {
            fault("rule 10: texts joined by +");
        }
        return super.visitBinary(node, none);
    }

    @Override
    public Void visitDoWhileLoop(DoWhileLoopTree node, Void none) {
        fault("a loop whose end is not seen at its head");
        return super.visitDoWhileLoop(node, none);
    }

    @Override
    public Void visitForLoop(ForLoopTree node, Void none) {
        if (node.getCondition() == null || node.getUpdate().isEmpty()) {
            fault("rule 9: a loop without an end or a step");
        }
        return super.visitForLoop(node, none);
    }

    private Void ruledOut(String rule, Tree node) {
        fault(rule + ": " + node.getKind());
        return null;
    }

    @Override
    public Void visitLambdaExpression(LambdaExpressionTree node, Void none) {
        return ruledOut("rule 2", node);
    }

    @Override
    public Void visitMemberReference(MemberReferenceTree node, Void none) {
        return ruledOut("rule 2", node);
    }

    @Override
    public Void visitAnnotation(AnnotationTree node, Void none) {
        return ruledOut("rule 4", node);
    }

    @Override
    public Void visitTry(TryTree node, Void none) {
        return ruledOut("rule 6", node);
    }

    @Override
    public Void visitAssert(AssertTree node, Void none) {
        return ruledOut("rule 6", node);
    }

    @Override
    public Void visitSynchronized(SynchronizedTree node, Void none) {
        return ruledOut("rule 6", node);
    }

    @Override
    public Void visitInstanceOf(InstanceOfTree node, Void none) {
        return ruledOut("rule 6, not needed", node);
    }

    @Override
    public Void visitTypeCast(TypeCastTree node, Void none) {
        if (!trees.getTypeMirror(getCurrentPath()).getKind().isPrimitive()) {
            fault("rule 6: a cast of an object");
        }
        return super.visitTypeCast(node, none);
    }
}
