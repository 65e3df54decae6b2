import com.sun.source.tree.AssertTree;
import com.sun.source.tree.BinaryTree;
import com.sun.source.tree.ClassTree;
import com.sun.source.tree.CompilationUnitTree;
import com.sun.source.tree.CompoundAssignmentTree;
import com.sun.source.tree.DoWhileLoopTree;
import com.sun.source.tree.ExpressionTree;
import com.sun.source.tree.ForLoopTree;
import com.sun.source.tree.IdentifierTree;
import com.sun.source.tree.LambdaExpressionTree;
import com.sun.source.tree.LiteralTree;
import com.sun.source.tree.MemberReferenceTree;
import com.sun.source.tree.MemberSelectTree;
import com.sun.source.tree.MethodInvocationTree;
import com.sun.source.tree.MethodTree;
import com.sun.source.tree.NewClassTree;
import com.sun.source.tree.SynchronizedTree;
import com.sun.source.tree.ThrowTree;
import com.sun.source.tree.Tree;
import com.sun.source.tree.TryTree;
import com.sun.source.tree.VariableTree;
import com.sun.source.tree.WhileLoopTree;
import com.sun.source.util.JavacTask;
import com.sun.source.util.TreePath;
import com.sun.source.util.TreePathScanner;
import com.sun.source.util.Trees;
import java.nio.file.Path;
import java.util.ArrayDeque;
import java.util.Deque;
import java.util.List;
import java.util.Map;
import java.util.Set;
import java.util.TreeMap;
import java.util.TreeSet;
import javax.lang.model.element.Element;
import javax.lang.model.element.ElementKind;
import javax.lang.model.element.ExecutableElement;
import javax.lang.model.element.Modifier;
import javax.lang.model.element.TypeElement;
import javax.tools.JavaCompiler;
import javax.tools.StandardJavaFileManager;
import javax.tools.ToolProvider;

/**
 * The rules of ../shared/LANGUAGE.md, as far as they can be seen in the program's text. FaceTest
 * has rule 1, AnyCallTest rule 7. Where the program does without what a rule allows (recursion,
 * try, while), so does this: what comes to use it must be looked at by eye.
 */
public final class LanguageTest extends TreePathScanner<Void, Void> {
    private static final Path PROGRAM = Path.of("src/main/java/CreditWire.java");

    private static final Set<String> EXCEPTIONS = Set.of("IllegalStateException",
            "IllegalArgumentException", "IndexOutOfBoundsException", "ArithmeticException",
            "UnsupportedOperationException", "NoSuchElementException", "RuntimeException");
    private static final Set<String> LIBRARY = Set.of("Object", "String", "StringBuilder", "Integer",
            "Long", "Math", "System", "Arrays", "ArrayList", "List", "Iterator", "Iterable",
            "Comparable");
    private static final Set<String> CALLS = Set.of(
            "String.length", "String.charAt", "String.isEmpty", "String.equals", "String.indexOf",
            "String.substring", "String.toCharArray", "StringBuilder.append", "StringBuilder.charAt",
            "StringBuilder.setCharAt", "StringBuilder.setLength", "StringBuilder.deleteCharAt",
            "StringBuilder.reverse", "StringBuilder.length", "StringBuilder.toString",
            "ArrayList.add", "ArrayList.get", "ArrayList.set", "ArrayList.remove", "ArrayList.size",
            "ArrayList.isEmpty", "ArrayList.clear", "List.add", "List.get", "List.set",
            "List.remove", "List.size", "List.isEmpty", "List.clear", "List.of",
            "System.arraycopy", "Arrays.copyOf", "Arrays.copyOfRange", "Arrays.fill",
            "Math.max", "Math.min", "Math.abs", "Math.floorDiv", "Math.floorMod",
            "Integer.compare", "Integer.max", "Integer.min", "Integer.bitCount",
            "Long.compare", "Long.max", "Long.min", "Long.bitCount");
    private static final Set<String> CONSTANTS = Set.of("int", "long", "boolean", "char", "String",
            "int[]", "long[]", "char[]", "byte[]");

    private final Check check = new Check("LanguageTest");
    private final CompilationUnitTree unit;
    private final Trees trees;
    private final Map<String, Set<String>> calledBy = new TreeMap<>();
    private int classes = 0;

    private LanguageTest(CompilationUnitTree unit, Trees trees) {
        this.unit = unit;
        this.trees = trees;
    }

    public static void main(String[] args) throws Exception {
        JavaCompiler compiler = ToolProvider.getSystemJavaCompiler();
        try (StandardJavaFileManager files = compiler.getStandardFileManager(null, null, null)) {
            JavacTask task = (JavacTask) compiler.getTask(null, files, null, List.of("-proc:none"),
                    null, files.getJavaFileObjects(PROGRAM));
            CompilationUnitTree unit = task.parse().iterator().next();
            task.analyze();
            LanguageTest test = new LanguageTest(unit, Trees.instance(task));
            test.allowed("a package line", unit.getPackageName() == null);
            test.allowed("classes of the file", unit.getTypeDecls().size() == 1);
            test.scan(unit, null);
            test.allowed("rule 11: at most some twelve classes", test.classes <= 12);
            test.callsGoAtMostEightDeep();
            test.check.end();
        }
    }

    private void allowed(String what, boolean isAllowed) {
        check.due(what, isAllowed ? 1 : 0, 1);
    }

    private void notAllowed(String what, Tree tree) {
        allowed(what + ", line " + line(tree, false), false);
    }

    private long line(Tree tree, boolean end) {
        long place = end ? trees.getSourcePositions().getEndPosition(unit, tree)
                : trees.getSourcePositions().getStartPosition(unit, tree);
        return unit.getLineMap().getLineNumber(place);
    }

    private Element element() {
        return trees.getElement(getCurrentPath());
    }

    /** The method or constructor round what is scanned now, or null. */
    private MethodTree methodAround() {
        for (TreePath path = getCurrentPath(); path != null; path = path.getParentPath()) {
            if (path.getLeaf() instanceof MethodTree method) {
                return method;
            }
        }
        return null;
    }

    private static boolean isOfLibrary(Element element) {
        for (Element e = element; e != null; e = e.getEnclosingElement()) {
            if (e.getKind() == ElementKind.PACKAGE) {
                return e.toString().startsWith("java.");
            }
        }
        return false;
    }

    @Override
    public Void visitClass(ClassTree tree, Void none) {
        classes++;
        String name = tree.getSimpleName().toString();
        Set<Modifier> modifiers = tree.getModifiers().getFlags();
        boolean isOuter = getCurrentPath().getParentPath().getLeaf() instanceof CompilationUnitTree;
        allowed("rule 1: " + name + " is static, not public",
                isOuter || modifiers.contains(Modifier.STATIC) && !modifiers.contains(Modifier.PUBLIC));
        allowed("rule 2: " + name + " is no local class", methodAround() == null);
        int fields = 0;
        for (Tree member : tree.getMembers()) {
            if (member instanceof VariableTree field) {
                boolean isStatic = field.getModifiers().getFlags().contains(Modifier.STATIC);
                fields += isStatic ? 0 : 1;
                allowed("rule 5: " + field.getName(), !isStatic || isConstant(field));
            }
            allowed("rule 5: no initialiser block in " + name, member.getKind() != Tree.Kind.BLOCK);
        }
        allowed("rule 11: some twenty fields in " + name, fields <= 20);
        return super.visitClass(tree, none);
    }

    private static boolean isConstant(VariableTree field) {
        return field.getModifiers().getFlags().contains(Modifier.FINAL)
                && field.getInitializer() != null && CONSTANTS.contains(field.getType().toString());
    }

    @Override
    public Void visitMethod(MethodTree tree, Void none) {
        String name = tree.getName().toString();
        allowed("rule 11: parameters of " + name, tree.getParameters().size() <= 7);
        allowed("rule 11: lines of " + name, line(tree, true) - line(tree, false) < 60);
        allowed("rule 6: " + name + " of its own",
                !Set.of("equals", "hashCode", "toString").contains(name));
        calledBy.putIfAbsent(fullName(element()), new TreeSet<>());
        return super.visitMethod(tree, none);
    }

    private static String fullName(Element method) {
        return method.getEnclosingElement() + "." + method;
    }

    @Override
    public Void visitMethodInvocation(MethodInvocationTree tree, Void none) {
        noteCall(element());
        return super.visitMethodInvocation(tree, none);
    }

    @Override
    public Void visitNewClass(NewClassTree tree, Void none) {
        allowed("rule 2: no anonymous class", tree.getClassBody() == null);
        noteCall(element());
        return super.visitNewClass(tree, none);
    }

    private void noteCall(Element called) {
        String name = called.getEnclosingElement().getSimpleName() + "." + called.getSimpleName();
        boolean isConstructor = called.getKind() == ElementKind.CONSTRUCTOR;
        if (isOfLibrary(called)) {
            allowed("rule 4: " + name, isConstructor || CALLS.contains(name));
            allowed("rule 3: no Math on doubles: " + name, !called.toString().contains("double")
                    && !called.toString().contains("float"));
        } else if (called instanceof ExecutableElement && methodAround() != null) {
            Element caller = trees.getElement(trees.getPath(unit, methodAround()));
            calledBy.computeIfAbsent(fullName(caller), key -> new TreeSet<>()).add(fullName(called));
        }
    }

    @Override
    public Void visitIdentifier(IdentifierTree tree, Void none) {
        noteType(element());
        return super.visitIdentifier(tree, none);
    }

    @Override
    public Void visitMemberSelect(MemberSelectTree tree, Void none) {
        noteType(element());
        return super.visitMemberSelect(tree, none);
    }

    private void noteType(Element element) {
        if (element instanceof TypeElement && isOfLibrary(element)) {
            String name = element.getSimpleName().toString();
            allowed("rules 3, 4, 6: " + name, LIBRARY.contains(name) || EXCEPTIONS.contains(name));
        }
    }

    @Override
    public Void visitThrow(ThrowTree tree, Void none) {
        MethodTree around = methodAround();
        allowed("rule 6: no throw in a constructor",
                around != null && !around.getName().contentEquals("<init>"));
        boolean isPlain = false;
        if (tree.getExpression() instanceof NewClassTree made) {
            List<? extends ExpressionTree> args = made.getArguments();
            isPlain = EXCEPTIONS.contains(made.getIdentifier().toString())
                    && (args.isEmpty() || args.size() == 1 && args.get(0) instanceof LiteralTree);
        }
        allowed("rule 6: a plain throw, line " + line(tree, false), isPlain);
        return super.visitThrow(tree, none);
    }

    @Override
    public Void visitBinary(BinaryTree tree, Void none) {
        noteJoin(tree);
        return super.visitBinary(tree, none);
    }

    @Override
    public Void visitCompoundAssignment(CompoundAssignmentTree tree, Void none) {
        noteJoin(tree);
        return super.visitCompoundAssignment(tree, none);
    }

    private void noteJoin(Tree tree) {
        String type = String.valueOf(trees.getTypeMirror(getCurrentPath()));
        allowed("rule 10: no text joined by +, line " + line(tree, false),
                !type.equals("java.lang.String"));
    }

    @Override
    public Void visitForLoop(ForLoopTree tree, Void none) {
        allowed("rule 9: a loop's end, line " + line(tree, false), tree.getCondition() != null);
        return super.visitForLoop(tree, none);
    }

    @Override
    public Void visitWhileLoop(WhileLoopTree tree, Void none) {
        notAllowed("rule 9: while", tree);
        return null;
    }

    @Override
    public Void visitDoWhileLoop(DoWhileLoopTree tree, Void none) {
        notAllowed("rule 9: do", tree);
        return null;
    }

    @Override
    public Void visitTry(TryTree tree, Void none) {
        notAllowed("rule 6: try", tree);
        return null;
    }

    @Override
    public Void visitLambdaExpression(LambdaExpressionTree tree, Void none) {
        notAllowed("rule 2: a lambda", tree);
        return null;
    }

    @Override
    public Void visitMemberReference(MemberReferenceTree tree, Void none) {
        notAllowed("rule 2: a method reference", tree);
        return null;
    }

    @Override
    public Void visitSynchronized(SynchronizedTree tree, Void none) {
        notAllowed("rule 6: synchronized", tree);
        return null;
    }

    @Override
    public Void visitAssert(AssertTree tree, Void none) {
        notAllowed("rule 6: assert", tree);
        return null;
    }

    private void callsGoAtMostEightDeep() {
        for (String method : calledBy.keySet()) {
            allowed("rule 11: calls from " + method, deep(method, new ArrayDeque<>()) <= 8);
        }
    }

    private int deep(String method, Deque<String> open) {
        if (open.contains(method)) {
            allowed("rule 8: no recursion by " + method, false);
            return 0;
        }
        open.push(method);
        int most = 0;
        for (String called : calledBy.getOrDefault(method, Set.of())) {
            most = Math.max(most, deep(called, open));
        }
        open.pop();
        return 1 + most;
    }
}
