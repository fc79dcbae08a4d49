import com.sun.source.tree.AssertTree;
import com.sun.source.tree.BinaryTree;
import com.sun.source.tree.BlockTree;
import com.sun.source.tree.ClassTree;
import com.sun.source.tree.CompilationUnitTree;
import com.sun.source.tree.IdentifierTree;
import com.sun.source.tree.LambdaExpressionTree;
import com.sun.source.tree.MemberReferenceTree;
import com.sun.source.tree.MethodInvocationTree;
import com.sun.source.tree.MethodTree;
import com.sun.source.tree.NewClassTree;
import com.sun.source.tree.SynchronizedTree;
import com.sun.source.tree.ThrowTree;
import com.sun.source.tree.Tree;
import com.sun.source.tree.TryTree;
import com.sun.source.tree.VariableTree;
import com.sun.source.util.JavacTask;
import com.sun.source.util.TreePath;
import com.sun.source.util.TreePathScanner;
import com.sun.source.util.Trees;
import java.io.IOException;
import java.util.HashMap;
import java.util.HashSet;
import java.util.List;
import java.util.Map;
import java.util.Set;
import java.util.TreeSet;
import javax.lang.model.element.Element;
import javax.lang.model.element.ElementKind;
import javax.lang.model.element.Modifier;
import javax.lang.model.element.TypeElement;
import javax.lang.model.type.TypeMirror;
import javax.tools.JavaCompiler;
import javax.tools.StandardJavaFileManager;
import javax.tools.ToolProvider;

/**
 * What can be seen of the rules of LANGUAGE.md in the program's text, as the compiler reads it. Where the program
 * needs less than a rule leaves, less is let pass: no import, no recursion, few calls of the library. Rules 7, 9
 * and 12 (no call throws or goes on for ever, little is made) are left to the reader, and to the tests that give
 * wrong arguments.
 */
public final class LanguageTest extends TreePathScanner<Void, Void> {
    private static final String PROGRAM = "src/main/java/LayeredLauncher.java";
    private static final int DEEPEST_CALLS = 8;
    private static final int MOST_PARAMETERS = 7;
    private static final int MOST_LINES = 60;
    private static final int MOST_CLASSES = 12;
    private static final int MOST_FIELDS = 20;

    /** What the program uses of the library; rule 4 has more, to be added here once it is used. */
    private static final Set<String> LIBRARY_CALLS = Set.of(
            "java.lang.System.arraycopy", "java.lang.Math.max", "java.lang.Math.min", "java.lang.Integer.bitCount", "java.lang.Object.<init>");
    private static final Set<String> LIBRARY_TYPES = Set.of("java.lang.System", "java.lang.Math", "java.lang.Integer", "java.lang.String");
    private static final Set<String> CONSTANT_TYPES = Set.of(
            "int", "long", "boolean", "char", "java.lang.String", "int[]", "long[]", "char[]", "byte[]");

    private final Trees trees;
    private final CompilationUnitTree unit;
    private final Map<Element, Set<Element>> calls = new HashMap<>();
    private final Set<String> publicMethods = new HashSet<>();
    private final Set<String> privateMethods = new TreeSet<>();
    private Element method = null;
    private int classes = 0;

    private LanguageTest(Trees trees, CompilationUnitTree unit) {
        this.trees = trees;
        this.unit = unit;
    }

    public static void main(String[] args) throws IOException {
        JavaCompiler compiler = ToolProvider.getSystemJavaCompiler();
        try (StandardJavaFileManager files = compiler.getStandardFileManager(null, null, null)) {
            JavacTask task = (JavacTask) compiler.getTask(
                    null, files, null, List.of("--release", "17", "-proc:none"), null, files.getJavaFileObjects(PROGRAM));
            CompilationUnitTree unit = task.parse().iterator().next();
            task.analyze();
            LanguageTest test = new LanguageTest(Trees.instance(task), unit);
            test.scan(unit, null);
            test.wholeProgram();
        }
        Due.end();
    }

    private void wholeProgram() {
        rule(1, "no package line", unit.getPackageName() == null);
        rule(4, "nothing is imported", unit.getImports().isEmpty());
        rule(2, "one class stands outermost", unit.getTypeDecls().size() == 1);
        rule(11, classes + " classes", classes <= MOST_CLASSES);
        for (String name : privateMethods) {
            rule(1, "no private method has the public name " + name, !publicMethods.contains(name));
        }
        for (Element start : calls.keySet()) {
            int deep = callsBelow(start, 0);
            rule(11, start + " opens " + deep + " calls at once", deep <= DEEPEST_CALLS);
        }
    }

    /** How many calls stand open at once below a method, itself counted; recursion comes out too deep. */
    private int callsBelow(Element start, int above) {
        int deepest = 0;
        if (above <= DEEPEST_CALLS) {
            for (Element called : calls.getOrDefault(start, Set.of())) {
                deepest = Math.max(deepest, callsBelow(called, above + 1));
            }
        }
        return deepest + 1;
    }

    @Override
    public Void visitClass(ClassTree tree, Void none) {
        classes++;
        Element made = element();
        boolean outermost = getCurrentPath().getParentPath().getLeaf() == unit;
        Set<Modifier> modifiers = made.getModifiers();
        if (!outermost) {
            rule(2, made + " is static", modifiers.contains(Modifier.STATIC));
            rule(2, made + " is not local", made.getEnclosingElement() instanceof TypeElement);
            rule(1, made + " is not visible outside", !modifiers.contains(Modifier.PUBLIC) && !modifiers.contains(Modifier.PROTECTED));
        }
        long fields = tree.getMembers().stream().filter(m -> m.getKind() == Tree.Kind.VARIABLE)
                .filter(m -> !((VariableTree) m).getModifiers().getFlags().contains(Modifier.STATIC)).count();
        rule(11, made + " has " + fields + " fields", fields <= MOST_FIELDS);
        return super.visitClass(tree, none);
    }

    @Override
    public Void visitMethod(MethodTree tree, Void none) {
        method = element();
        String name = method.toString();
        boolean outer = method.getEnclosingElement().getEnclosingElement().getKind() == ElementKind.PACKAGE;
        if (outer) {
            boolean open = method.getModifiers().contains(Modifier.PUBLIC);
            (open ? publicMethods : privateMethods).add(tree.getName().toString());
        }
        rule(11, name + " takes " + tree.getParameters().size(), tree.getParameters().size() <= MOST_PARAMETERS);
        rule(11, name + " has " + lines(tree) + " lines", lines(tree) <= MOST_LINES);
        calls.put(method, new HashSet<>());
        super.visitMethod(tree, none);
        method = null;
        return null;
    }

    @Override
    public Void visitMethodInvocation(MethodInvocationTree tree, Void none) {
        called(element());
        return super.visitMethodInvocation(tree, none);
    }

    @Override
    public Void visitNewClass(NewClassTree tree, Void none) {
        rule(2, "no anonymous class: " + tree, tree.getClassBody() == null);
        called(element());
        return super.visitNewClass(tree, none);
    }

    private void called(Element target) {
        TypeElement owner = (TypeElement) target.getEnclosingElement();
        if (!isOwn(owner)) {
            String name = owner.getQualifiedName() + "." + target.getSimpleName();
            rule(4, "the library's " + name, LIBRARY_CALLS.contains(name));
        } else if (method != null) {
            calls.get(method).add(target);
        }
    }

    @Override
    public Void visitIdentifier(IdentifierTree tree, Void none) {
        Element named = element();
        if (named instanceof TypeElement type && !isOwn(type)) {
            rule(3, "the type " + type, LIBRARY_TYPES.contains(type.toString()));
        }
        return super.visitIdentifier(tree, none);
    }

    @Override
    public Void visitVariable(VariableTree tree, Void none) {
        Element variable = element();
        if (variable.getModifiers().contains(Modifier.STATIC)) {
            rule(5, variable + " is final", variable.getModifiers().contains(Modifier.FINAL));
            rule(5, variable + " is a constant", CONSTANT_TYPES.contains(variable.asType().toString()));
        }
        return super.visitVariable(tree, none);
    }

    @Override
    public Void visitBlock(BlockTree tree, Void none) {
        rule(5, "no static initialiser", !tree.isStatic());
        return super.visitBlock(tree, none);
    }

    @Override
    public Void visitBinary(BinaryTree tree, Void none) {
        boolean texts = isText(tree.getLeftOperand()) || isText(tree.getRightOperand());
        rule(10, "no texts are joined or compared by a sign: " + tree, !texts);
        return super.visitBinary(tree, none);
    }

    @Override
    public Void visitLambdaExpression(LambdaExpressionTree tree, Void none) {
        return notAllowed(2, tree);
    }

    @Override
    public Void visitMemberReference(MemberReferenceTree tree, Void none) {
        return notAllowed(2, tree);
    }

    @Override
    public Void visitThrow(ThrowTree tree, Void none) {
        return notAllowed(6, tree);
    }

    @Override
    public Void visitTry(TryTree tree, Void none) {
        return notAllowed(6, tree);
    }

    @Override
    public Void visitSynchronized(SynchronizedTree tree, Void none) {
        return notAllowed(6, tree);
    }

    @Override
    public Void visitAssert(AssertTree tree, Void none) {
        return notAllowed(6, tree);
    }

    private Void notAllowed(int number, Tree tree) {
        rule(number, "not allowed: " + tree, false);
        return null;
    }

    private boolean isText(Tree operand) {
        TypeMirror type = trees.getTypeMirror(new TreePath(getCurrentPath(), operand));
        return type != null && type.toString().equals("java.lang.String");
    }

    private boolean isOwn(TypeElement type) {
        return trees.getPath(type) != null;
    }

    /** What the tree that is visited now declares or names. */
    private Element element() {
        return trees.getElement(getCurrentPath());
    }

    private long lines(Tree tree) {
        long first = unit.getLineMap().getLineNumber(trees.getSourcePositions().getStartPosition(unit, tree));
        long last = unit.getLineMap().getLineNumber(trees.getSourcePositions().getEndPosition(unit, tree));
        return last - first + 1;
    }

    private static void rule(int number, String what, boolean kept) {
        Due.due("rule " + number + " of LANGUAGE.md: " + what, kept ? 1 : 0, 1);
    }
}
