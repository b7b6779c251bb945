import com.sun.source.tree.AssertTree;
import com.sun.source.tree.BinaryTree;
import com.sun.source.tree.BlockTree;
import com.sun.source.tree.ClassTree;
import com.sun.source.tree.CompilationUnitTree;
import com.sun.source.tree.CompoundAssignmentTree;
import com.sun.source.tree.DoWhileLoopTree;
import com.sun.source.tree.ExpressionTree;
import com.sun.source.tree.ForLoopTree;
import com.sun.source.tree.LambdaExpressionTree;
import com.sun.source.tree.MemberReferenceTree;
import com.sun.source.tree.MethodInvocationTree;
import com.sun.source.tree.MethodTree;
import com.sun.source.tree.NewArrayTree;
import com.sun.source.tree.NewClassTree;
import com.sun.source.tree.PackageTree;
import com.sun.source.tree.SynchronizedTree;
import com.sun.source.tree.ThrowTree;
import com.sun.source.tree.Tree;
import com.sun.source.tree.TryTree;
import com.sun.source.tree.TypeCastTree;
import com.sun.source.tree.VariableTree;
import com.sun.source.tree.WhileLoopTree;
import com.sun.source.util.JavacTask;
import com.sun.source.util.TreePath;
import com.sun.source.util.TreePathScanner;
import com.sun.source.util.Trees;
import java.io.IOException;
import java.net.URI;
import java.util.ArrayList;
import java.util.HashSet;
import java.util.List;
import java.util.Map;
import java.util.Set;
import java.util.TreeMap;
import java.util.TreeSet;
import javax.lang.model.element.Element;
import javax.lang.model.element.ElementKind;
import javax.lang.model.element.ExecutableElement;
import javax.lang.model.element.Modifier;
import javax.lang.model.element.TypeElement;
import javax.lang.model.element.VariableElement;
import javax.lang.model.type.ArrayType;
import javax.lang.model.type.TypeKind;
import javax.lang.model.type.TypeMirror;
import javax.tools.Diagnostic;
import javax.tools.DiagnosticCollector;
import javax.tools.JavaFileObject;
import javax.tools.SimpleJavaFileObject;
import javax.tools.ToolProvider;

/**
 * Those rules of LANGUAGE.md that the compiler's tree can tell. It is narrower than they are where
 * LotBooks needs less: no recursion at all, no cast of objects, no interfaces of the library.
 */
final class LanguageRules extends TreePathScanner<Void, Void> {
    private static final int MOST_PARAMETERS = 7;
    private static final int MOST_LINES = 60;
    private static final int DEEPEST_CALL = 8;
    private static final int MOST_CLASSES = 12;
    private static final int MOST_FIELDS = 20;

    private static final Map<String, Set<String>> LIBRARY = Map.of(
            "java.lang.String", Set.of("length", "charAt", "isEmpty", "equals", "indexOf", "substring",
                    "toCharArray", "<init>"),
            "java.lang.StringBuilder", Set.of("<init>", "append", "charAt", "setCharAt", "setLength",
                    "deleteCharAt", "reverse", "length", "toString"),
            "java.util.ArrayList", Set.of("<init>", "add", "get", "set", "remove", "size", "isEmpty", "clear"),
            "java.util.List", Set.of("of", "add", "get", "set", "remove", "size", "isEmpty", "clear"),
            "java.lang.System", Set.of("arraycopy"),
            "java.util.Arrays", Set.of("copyOf", "copyOfRange", "fill"),
            "java.lang.Object", Set.of("<init>"));

    private static final Set<String> NUMBER_LIBRARIES =
            Set.of("java.lang.Math", "java.lang.Integer", "java.lang.Long");

    private static final Set<String> LIBRARY_TYPES =
            Set.of("java.lang.String", "java.lang.StringBuilder", "java.lang.Integer",
                    "java.util.ArrayList", "java.util.List");

    private final Trees trees;
    private final CompilationUnitTree unit;
    private final Set<String> faults = new TreeSet<>();
    private final Map<String, Set<String>> calls = new TreeMap<>();
    private final Set<String> ownClasses = new HashSet<>();

    private LanguageRules(Trees trees, CompilationUnitTree unit) {
        this.trees = trees;
        this.unit = unit;
    }

    /** The faults of a source, each with the number of its rule in front; 0 is the text before rule 1. */
    static Set<String> faultsOf(String source) throws IOException {
        DiagnosticCollector<JavaFileObject> said = new DiagnosticCollector<>();
        JavacTask task = (JavacTask) ToolProvider.getSystemJavaCompiler().getTask(null, null, said,
                List.of("--release", "17", "-proc:none"), null, List.of(new Text(source)));
        CompilationUnitTree unit = task.parse().iterator().next();
        task.analyze();
        LanguageRules rules = new LanguageRules(Trees.instance(task), unit);
        for (Diagnostic<?> one : said.getDiagnostics()) {
            if (one.getKind() == Diagnostic.Kind.ERROR) {
                rules.faults.add("0: it does not compile: " + one.getMessage(null));
            }
        }
        if (rules.faults.isEmpty()) {
            rules.look();
        }
        return rules.faults;
    }

    private static final class Text extends SimpleJavaFileObject {
        private final String text;

        Text(String text) {
            super(URI.create("string:///LotBooks.java"), Kind.SOURCE);
            this.text = text;
        }

        @Override
        public CharSequence getCharContent(boolean ignoreErrors) {
            return text;
        }
    }

    private void look() {
        new TreePathScanner<Void, Void>() {
            @Override
            public Void visitClass(ClassTree tree, Void none) {
                ownClasses.add(trees.getElement(getCurrentPath()).toString());
                return super.visitClass(tree, none);
            }
        }.scan(unit, null);
        if (unit.getTypeDecls().size() != 1) {
            fault(0, "more than one class at the top");
            return;
        }
        limit(11, "classes", ownClasses.size(), MOST_CLASSES);
        scan(unit, null);
        for (String method : calls.keySet()) {
            limit(11, "calls deep from " + method, depth(method, new ArrayList<>()), DEEPEST_CALL);
        }
    }

    private void fault(int rule, String what) {
        faults.add(rule + ": " + what);
    }

    private void limit(int rule, String what, long got, long most) {
        if (got > most) {
            fault(rule, got + " " + what + ", at most " + most);
        }
    }

    /** How many calls stand open at once at most when a method is called. */
    private int depth(String method, List<String> open) {
        if (open.contains(method)) {
            fault(8, method + " calls itself");
            return 0;
        }
        open.add(method);
        int deepest = 0;
        for (String called : calls.getOrDefault(method, Set.of())) {
            deepest = Math.max(deepest, depth(called, open));
        }
        open.remove(method);
        return deepest + 1;
    }

    // Rules 1, 2 and 5: the shape of the file.

    @Override
    public Void visitPackage(PackageTree tree, Void none) {
        fault(0, "a package line");
        return super.visitPackage(tree, none);
    }

    @Override
    public Void visitClass(ClassTree tree, Void none) {
        Element element = trees.getElement(getCurrentPath());
        Set<Modifier> modifiers = element.getModifiers();
        Tree around = getCurrentPath().getParentPath().getLeaf();
        if (around instanceof CompilationUnitTree) {
            if (!modifiers.contains(Modifier.PUBLIC) || !modifiers.contains(Modifier.FINAL)) {
                fault(1, tree.getSimpleName() + " is not public and final");
            }
            facePartsAreHidden(element);
        } else if (!(around instanceof ClassTree)) {
            fault(2, "a local or anonymous class in " + within());
        } else if (!modifiers.contains(Modifier.STATIC)) {
            fault(2, tree.getSimpleName() + " is not static");
        } else if (modifiers.contains(Modifier.PUBLIC) || modifiers.contains(Modifier.PROTECTED)) {
            fault(1, tree.getSimpleName() + " is neither private nor package-visible");
        }
        long fields = tree.getMembers().stream().filter(this::isFieldOfObjects).count();
        limit(11, "fields in " + tree.getSimpleName(), fields, MOST_FIELDS);
        return super.visitClass(tree, none);
    }

    private static boolean isMember(Element element) {
        return element.getKind() == ElementKind.METHOD || element.getKind() == ElementKind.FIELD
                || element.getKind() == ElementKind.CONSTRUCTOR;
    }

    private void facePartsAreHidden(Element face) {
        Set<String> open = new HashSet<>();
        for (Element one : face.getEnclosedElements()) {
            if (one.getModifiers().contains(Modifier.PUBLIC)) {
                open.add(one.getKind() == ElementKind.METHOD ? one.getSimpleName().toString() : "");
            } else if (isMember(one) && !one.getModifiers().contains(Modifier.PRIVATE)) {
                fault(1, one.getSimpleName() + " is neither public nor private");
            }
        }
        for (Element one : face.getEnclosedElements()) {
            if (one.getKind() == ElementKind.METHOD && one.getModifiers().contains(Modifier.PRIVATE)
                    && open.contains(one.getSimpleName().toString())) {
                fault(1, "private " + one.getSimpleName() + " bears a public name");
            }
        }
    }

    private boolean isFieldOfObjects(Tree member) {
        return member instanceof VariableTree field && !field.getModifiers().getFlags().contains(Modifier.STATIC);
    }

    @Override
    public Void visitLambdaExpression(LambdaExpressionTree tree, Void none) {
        fault(2, "a lambda in " + within());
        return super.visitLambdaExpression(tree, none);
    }

    @Override
    public Void visitMemberReference(MemberReferenceTree tree, Void none) {
        fault(2, "a method reference in " + within());
        return super.visitMemberReference(tree, none);
    }

    @Override
    public Void visitBlock(BlockTree tree, Void none) {
        if (tree.isStatic()) {
            fault(5, "a static initialiser in " + within());
        }
        return super.visitBlock(tree, none);
    }

    @Override
    public Void visitVariable(VariableTree tree, Void none) {
        VariableElement element = (VariableElement) trees.getElement(getCurrentPath());
        typeIsAllowed(element.asType(), "variable " + tree.getName());
        if (element.getKind() == ElementKind.FIELD && element.getModifiers().contains(Modifier.STATIC)) {
            boolean writtenOut = tree.getInitializer() instanceof NewArrayTree row && row.getInitializers() != null;
            if (!element.getModifiers().contains(Modifier.FINAL)
                    || (element.getConstantValue() == null && !writtenOut)) {
                fault(5, "static " + tree.getName() + " is not a constant");
            }
        }
        return super.visitVariable(tree, none);
    }

    // Rule 3: types.

    private void typeIsAllowed(TypeMirror type, String where) {
        TypeMirror inner = type;
        int dimensions = 0;
        while (inner instanceof ArrayType array) {
            inner = array.getComponentType();
            dimensions++;
        }
        String name = inner.toString().replaceAll("<.*", "");
        boolean number = inner.getKind().isPrimitive();
        boolean known = number || inner.getKind() == TypeKind.VOID || inner.getKind() == TypeKind.TYPEVAR
                || isOwn(name) || LIBRARY_TYPES.contains(name);
        if (!known || dimensions > (number ? 2 : 1)) {
            fault(3, where + " is of type " + type);
        }
    }

    private boolean isOwn(String type) {
        return ownClasses.contains(type);
    }

    // Rules 4, 6, 8 and 12: what is called and made.

    @Override
    public Void visitMethodInvocation(MethodInvocationTree tree, Void none) {
        called((ExecutableElement) trees.getElement(getCurrentPath()));
        return super.visitMethodInvocation(tree, none);
    }

    @Override
    public Void visitNewClass(NewClassTree tree, Void none) {
        // With a body it makes an object of an anonymous class, which is a fault of its own.
        if (tree.getClassBody() == null) {
            called((ExecutableElement) trees.getElement(getCurrentPath()));
        }
        return super.visitNewClass(tree, none);
    }

    private void called(ExecutableElement method) {
        String owner = ((TypeElement) method.getEnclosingElement()).getQualifiedName().toString();
        String name = method.getSimpleName().toString();
        if (isOwn(owner)) {
            calls.computeIfAbsent(within(), any -> new TreeSet<>()).add(owner + "." + method);
            if (Set.of("equals", "hashCode", "toString").contains(name)) {
                fault(6, name + " of an own object in " + within());
            }
        } else if (!isInLibrary(owner, name, method)) {
            fault(4, owner + "." + method + " in " + within());
        }
    }

    private static boolean isInLibrary(String owner, String name, ExecutableElement method) {
        if (NUMBER_LIBRARIES.contains(owner)) {
            return method.getModifiers().contains(Modifier.STATIC) && !name.endsWith("Exact")
                    && method.getParameters().stream().allMatch(p -> isWhole(p.asType()));
        }
        return LIBRARY.getOrDefault(owner, Set.of()).contains(name)
                || (owner.equals("Array") && name.equals("clone"));
    }

    private static boolean isWhole(TypeMirror type) {
        return type.getKind() == TypeKind.INT || type.getKind() == TypeKind.LONG;
    }

    /** The method around a place; what fields begin with belongs to the constructor. */
    private String within() {
        TreePath path = getCurrentPath();
        while (path != null && !(path.getLeaf() instanceof MethodTree) && !(path.getLeaf() instanceof ClassTree)) {
            path = path.getParentPath();
        }
        Element element = trees.getElement(path);
        if (element instanceof ExecutableElement method) {
            return method.getEnclosingElement() + "." + method;
        }
        for (Element one : element.getEnclosedElements()) {
            if (one.getKind() == ElementKind.CONSTRUCTOR) {
                return element + "." + one;
            }
        }
        return element.toString();
    }

    // Rules 6, 9 and 10: what statements there are.

    @Override
    public Void visitThrow(ThrowTree tree, Void none) {
        fault(6, "throw in " + within());
        return super.visitThrow(tree, none);
    }

    @Override
    public Void visitTry(TryTree tree, Void none) {
        fault(6, "try in " + within());
        return super.visitTry(tree, none);
    }

    @Override
    public Void visitSynchronized(SynchronizedTree tree, Void none) {
        fault(6, "synchronized in " + within());
        return super.visitSynchronized(tree, none);
    }

    @Override
    public Void visitAssert(AssertTree tree, Void none) {
        fault(6, "assert in " + within());
        return super.visitAssert(tree, none);
    }

    @Override
    public Void visitTypeCast(TypeCastTree tree, Void none) {
        if (!typeOf(tree.getType()).getKind().isPrimitive()) {
            fault(6, "a cast of objects in " + within());
        }
        return super.visitTypeCast(tree, none);
    }

    @Override
    public Void visitBinary(BinaryTree tree, Void none) {
        boolean compares = tree.getKind() == Tree.Kind.EQUAL_TO || tree.getKind() == Tree.Kind.NOT_EQUAL_TO;
        if (compares && isText(tree.getLeftOperand()) && isText(tree.getRightOperand())) {
            fault(6, "two Strings or Integers are compared by == in " + within());
        }
        if (tree.getKind() == Tree.Kind.PLUS && (isText(tree.getLeftOperand()) || isText(tree.getRightOperand()))) {
            fault(10, "texts are joined by + in " + within());
        }
        return super.visitBinary(tree, none);
    }

    @Override
    public Void visitCompoundAssignment(CompoundAssignmentTree tree, Void none) {
        if (isText(tree.getVariable())) {
            fault(10, "texts are joined by += in " + within());
        }
        return super.visitCompoundAssignment(tree, none);
    }

    private TypeMirror typeOf(Tree tree) {
        return trees.getTypeMirror(new TreePath(getCurrentPath(), tree));
    }

    private boolean isText(ExpressionTree tree) {
        return Set.of("java.lang.String", "java.lang.Integer").contains(typeOf(tree).toString());
    }

    @Override
    public Void visitForLoop(ForLoopTree tree, Void none) {
        endCanBeSeen(tree.getCondition());
        return super.visitForLoop(tree, none);
    }

    @Override
    public Void visitWhileLoop(WhileLoopTree tree, Void none) {
        endCanBeSeen(tree.getCondition());
        return super.visitWhileLoop(tree, none);
    }

    @Override
    public Void visitDoWhileLoop(DoWhileLoopTree tree, Void none) {
        endCanBeSeen(tree.getCondition());
        return super.visitDoWhileLoop(tree, none);
    }

    private void endCanBeSeen(ExpressionTree condition) {
        if (condition == null || condition.toString().replaceAll("[()]", "").equals("true")) {
            fault(9, "a loop without an end in " + within());
        }
    }

    // Rule 11: sizes.

    @Override
    public Void visitMethod(MethodTree tree, Void none) {
        limit(11, "parameters of " + tree.getName(), tree.getParameters().size(), MOST_PARAMETERS);
        limit(11, "lines of " + tree.getName(), linesOf(tree), MOST_LINES);
        calls.computeIfAbsent(within(), any -> new TreeSet<>());
        if (tree.getReturnType() != null) {
            typeIsAllowed(typeOf(tree.getReturnType()), tree.getName() + "'s answer");
        }
        if (tree.getModifiers().getFlags().contains(Modifier.SYNCHRONIZED) || !tree.getThrows().isEmpty()) {
            fault(6, tree.getName() + " is synchronized or throws");
        }
        return super.visitMethod(tree, none);
    }

    private long linesOf(Tree tree) {
        long start = trees.getSourcePositions().getStartPosition(unit, tree);
        long end = trees.getSourcePositions().getEndPosition(unit, tree);
        if (end < 0) {
            return 0;
        }
        return unit.getLineMap().getLineNumber(end) - unit.getLineMap().getLineNumber(start) + 1;
    }
}
