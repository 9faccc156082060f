import com.sun.source.tree.AssertTree;
import com.sun.source.tree.BinaryTree;
import com.sun.source.tree.BlockTree;
import com.sun.source.tree.ClassTree;
import com.sun.source.tree.CompilationUnitTree;
import com.sun.source.tree.CompoundAssignmentTree;
import com.sun.source.tree.IdentifierTree;
import com.sun.source.tree.LambdaExpressionTree;
import com.sun.source.tree.LiteralTree;
import com.sun.source.tree.MemberReferenceTree;
import com.sun.source.tree.MethodInvocationTree;
import com.sun.source.tree.MethodTree;
import com.sun.source.tree.NewClassTree;
import com.sun.source.tree.SynchronizedTree;
import com.sun.source.tree.ThrowTree;
import com.sun.source.tree.Tree;
import com.sun.source.tree.TryTree;
import com.sun.source.tree.TypeCastTree;
import com.sun.source.tree.VariableTree;
import com.sun.source.util.JavacTask;
import com.sun.source.util.SourcePositions;
import com.sun.source.util.TreePath;
import com.sun.source.util.TreePathScanner;
import com.sun.source.util.Trees;
import java.nio.file.Path;
import java.util.HashMap;
import java.util.HashSet;
import java.util.LinkedHashSet;
import java.util.List;
import java.util.Map;
import java.util.Set;
import java.util.TreeSet;
import javax.lang.model.element.Element;
import javax.lang.model.element.ElementKind;
import javax.lang.model.element.Modifier;
import javax.lang.model.type.TypeMirror;
import javax.tools.JavaCompiler;
import javax.tools.StandardJavaFileManager;
import javax.tools.ToolProvider;

/** Layerboard.java keeps to the rules of ../shared/LANGUAGE.md, as far as a look at its tree can tell. */
public final class LanguageTest extends TreePathScanner<Void, Void> {
    private static final Set<String> EXCEPTIONS = Set.of("IllegalStateException", "IllegalArgumentException",
            "IndexOutOfBoundsException", "ArithmeticException", "UnsupportedOperationException",
            "NoSuchElementException", "RuntimeException");
    private static final Set<String> LIBRARY = Set.of("Math.abs", "Math.min", "Math.max", "Math.floorDiv",
            "Math.floorMod", "Long.bitCount", "Arrays.fill", "System.arraycopy");

    private static final int MOST_DEEP = 8;

    private final Trees trees;
    private final CompilationUnitTree unit;
    private final Set<String> wrong = new TreeSet<>();
    private final Set<String> face = new HashSet<>();
    private final Map<String, Set<String>> calls = new HashMap<>();
    private String method = "";
    private boolean isConstructor = false;
    private int classes = 0;

    private LanguageTest(Trees trees, CompilationUnitTree unit) {
        this.trees = trees;
        this.unit = unit;
    }

    private void tell(Tree where, String what) {
        long line = unit.getLineMap().getLineNumber(trees.getSourcePositions().getStartPosition(unit, where));
        wrong.add("line " + line + ": " + what);
    }

    @Override
    public Void visitClass(ClassTree c, Void v) {
        classes++;
        boolean isOuter = getCurrentPath().getParentPath().getLeaf() == unit;
        Set<Modifier> flags = c.getModifiers().getFlags();
        if (!isOuter && (!flags.contains(Modifier.STATIC) || flags.contains(Modifier.PUBLIC)
                || flags.contains(Modifier.PROTECTED))) {
            tell(c, "a class inside is static and not public (rules 1, 2)");
        }
        int fields = 0;
        for (Tree member : c.getMembers()) {
            if (member instanceof VariableTree f) {
                Set<Modifier> m = f.getModifiers().getFlags();
                fields += m.contains(Modifier.STATIC) ? 0 : 1;
                if (m.contains(Modifier.STATIC) && !m.contains(Modifier.FINAL)) {
                    tell(f, "a static field is final (rule 5)");
                }
            } else if (member instanceof BlockTree) {
                tell(member, "no initialiser blocks (rule 5)");
            } else if (member instanceof MethodTree m) {
                checkName(m, isOuter);
            }
        }
        if (fields > 20) {
            tell(c, fields + " fields (rule 11)");
        }
        return super.visitClass(c, v);
    }

    private void checkName(MethodTree m, boolean isOuter) {
        boolean isPublic = m.getModifiers().getFlags().contains(Modifier.PUBLIC);
        String name = m.getName().toString();
        if (isPublic && isOuter) {
            face.add(name);
        } else if (face.contains(name) && !name.equals("<init>")) {
            tell(m, name + " is the name of a public method (rule 1)");
        }
        if (Set.of("equals", "hashCode", "toString").contains(name)) {
            tell(m, "no " + name + " (rule 6)");
        }
    }

    @Override
    public Void visitMethod(MethodTree m, Void v) {
        String before = method;
        boolean wasConstructor = isConstructor;
        Element e = trees.getElement(getCurrentPath());
        method = e.getEnclosingElement().getSimpleName() + "." + e.getSimpleName();
        isConstructor = e.getKind() == ElementKind.CONSTRUCTOR;
        calls.computeIfAbsent(method, k -> new TreeSet<>());
        SourcePositions at = trees.getSourcePositions();
        long from = unit.getLineMap().getLineNumber(Math.max(0, at.getStartPosition(unit, m)));
        long to = unit.getLineMap().getLineNumber(Math.max(0, at.getEndPosition(unit, m)));
        if (to - from > 60) {
            tell(m, "has " + (to - from) + " lines (rule 11)");
        }
        if (m.getParameters().size() > 7) {
            tell(m, "more than seven parameters (rule 11)");
        }
        super.visitMethod(m, v);
        method = before;
        isConstructor = wasConstructor;
        return null;
    }

    @Override
    public Void visitMethodInvocation(MethodInvocationTree call, Void v) {
        Element e = trees.getElement(new TreePath(getCurrentPath(), call.getMethodSelect()));
        Element owner = e.getEnclosingElement();
        String name = owner.getSimpleName() + "." + e.getSimpleName();
        if (trees.getTree(e) != null) {
            calls.computeIfAbsent(method, k -> new TreeSet<>()).add(name);
        } else if (!name.equals("Object.<init>")) {
            checkLibrary(call, name);
        }
        return super.visitMethodInvocation(call, v);
    }

    private void checkLibrary(MethodInvocationTree call, String name) {
        if (!LIBRARY.contains(name)) {
            tell(call, name + " is not on this test's list (rule 4)");
        } else if (name.equals("Arrays.fill")) {
            TypeMirror type = trees.getTypeMirror(new TreePath(getCurrentPath(), call.getArguments().get(0)));
            if (!type.toString().equals("int[]") && !type.toString().equals("long[]")) {
                tell(call, "Arrays.fill over " + type + " (rule 4)");
            }
        }
    }

    @Override
    public Void visitNewClass(NewClassTree n, Void v) {
        Element e = trees.getElement(getCurrentPath());
        if (trees.getTree(e) != null) {
            calls.computeIfAbsent(method, k -> new TreeSet<>()).add(e.getEnclosingElement().getSimpleName() + ".<init>");
        }
        return super.visitNewClass(n, v);
    }

    @Override
    public Void visitThrow(ThrowTree t, Void v) {
        boolean isNew = t.getExpression() instanceof NewClassTree;
        if (isNew) {
            NewClassTree n = (NewClassTree) t.getExpression();
            isNew = EXCEPTIONS.contains(n.getIdentifier().toString()) && (n.getArguments().isEmpty()
                    || n.getArguments().get(0) instanceof LiteralTree);
        }
        if (!isNew || isConstructor) {
            tell(t, "such a throw (rule 6)");
        }
        return super.visitThrow(t, v);
    }

    @Override
    public Void visitBinary(BinaryTree b, Void v) {
        if (b.getKind() == Tree.Kind.PLUS) {
            TypeMirror type = trees.getTypeMirror(getCurrentPath());
            if (type.toString().equals("java.lang.String")) {
                tell(b, "a text joined by + (rule 10)");
            }
        }
        return super.visitBinary(b, v);
    }

    @Override
    public Void visitCompoundAssignment(CompoundAssignmentTree a, Void v) {
        if (trees.getTypeMirror(getCurrentPath()).toString().equals("java.lang.String")) {
            tell(a, "a text joined by += (rule 10)");
        }
        return super.visitCompoundAssignment(a, v);
    }

    @Override
    public Void visitIdentifier(IdentifierTree i, Void v) {
        if (Set.of("double", "float", "Object", "Random", "Thread").contains(i.getName().toString())) {
            tell(i, i.getName() + " (rules 3, 13)");
        }
        return super.visitIdentifier(i, v);
    }

    @Override
    public Void visitTypeCast(TypeCastTree t, Void v) {
        tell(t, "a cast, which this class does without (rules 6, 7)");
        return super.visitTypeCast(t, v);
    }

    @Override
    public Void visitTry(TryTree t, Void v) {
        tell(t, "a try, which this class does without (rule 6)");
        return super.visitTry(t, v);
    }

    @Override
    public Void visitLambdaExpression(LambdaExpressionTree t, Void v) {
        tell(t, "a lambda (rule 2)");
        return super.visitLambdaExpression(t, v);
    }

    @Override
    public Void visitMemberReference(MemberReferenceTree t, Void v) {
        tell(t, "a method reference (rule 2)");
        return super.visitMemberReference(t, v);
    }

    @Override
    public Void visitSynchronized(SynchronizedTree t, Void v) {
        tell(t, "synchronized (rule 6)");
        return super.visitSynchronized(t, v);
    }

    @Override
    public Void visitAssert(AssertTree t, Void v) {
        tell(t, "assert (rule 6)");
        return super.visitAssert(t, v);
    }

    /** How many methods stand open at most below this one, itself counted; the class does without recursion. */
    private int depth(String name, Set<String> open) {
        if (!open.add(name)) {
            wrong.add(name + " calls itself");
            return 0;
        }
        if (open.size() > MOST_DEEP) {
            wrong.add("calls go too deep (rule 11): " + open);
        }
        int deepest = 0;
        for (String called : calls.getOrDefault(name, Set.of())) {
            deepest = Math.max(deepest, depth(called, open));
        }
        open.remove(name);
        return deepest + 1;
    }

    private int finish() {
        int deepest = 0;
        for (String name : calls.keySet()) {
            deepest = Math.max(deepest, depth(name, new LinkedHashSet<>()));
        }
        if (classes > 12) {
            wrong.add(classes + " classes (rule 11)");
        }
        wrong.forEach(System.out::println);
        System.out.println("LanguageTest: " + classes + " classes, calls " + deepest + " deep, " + wrong.size() + " wrong");
        return wrong.size();
    }

    public static void main(String[] args) throws Exception {
        JavaCompiler compiler = ToolProvider.getSystemJavaCompiler();
        StandardJavaFileManager files = compiler.getStandardFileManager(null, null, null);
        Path source = Path.of(args[0], "src", "main", "java", "Layerboard.java");
        JavacTask task = (JavacTask) compiler.getTask(null, files, null, List.of("-proc:none"), null,
                files.getJavaFileObjects(source));
        CompilationUnitTree unit = task.parse().iterator().next();
        task.analyze();
        LanguageTest test = new LanguageTest(Trees.instance(task), unit);
        test.scan(unit, null);
        System.exit(test.finish() == 0 ? 0 : 1);
    }
}
