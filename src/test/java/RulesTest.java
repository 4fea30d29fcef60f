import com.sun.source.tree.AssertTree;
import com.sun.source.tree.BinaryTree;
import com.sun.source.tree.ClassTree;
import com.sun.source.tree.CompilationUnitTree;
import com.sun.source.tree.ExpressionTree;
import com.sun.source.tree.ImportTree;
import com.sun.source.tree.LambdaExpressionTree;
import com.sun.source.tree.LiteralTree;
import com.sun.source.tree.MemberReferenceTree;
import com.sun.source.tree.MethodInvocationTree;
import com.sun.source.tree.MethodTree;
import com.sun.source.tree.NewClassTree;
import com.sun.source.tree.SynchronizedTree;
import com.sun.source.tree.ThrowTree;
import com.sun.source.tree.Tree;
import com.sun.source.tree.TryTree;
import com.sun.source.tree.VariableTree;
import com.sun.source.util.JavacTask;
import com.sun.source.util.TreePath;
import com.sun.source.util.TreePathScanner;
import com.sun.source.util.Trees;
import java.io.IOException;
import java.nio.file.Path;
import java.util.List;
import java.util.Set;
import javax.lang.model.element.Element;
import javax.lang.model.element.ElementKind;
import javax.lang.model.element.Modifier;
import javax.lang.model.type.TypeMirror;
import javax.tools.JavaCompiler;
import javax.tools.StandardJavaFileManager;
import javax.tools.ToolProvider;

/**
 * The rules of LANGUAGE.md that can be read off the program's text. Where the class uses less than a rule allows, this
 * test allows no more than the class uses.
 */
public final class RulesTest extends TreePathScanner<Void, Void> {
    private static final Check CHECK = new Check();
    private static final Path PROGRAM = Path.of("src/main/java/HyphenPatterns.java");
    private static final Set<String> IMPORTS = Set.of("java.util.ArrayList", "java.util.Arrays");
    private static final Set<String> THROWN = Set.of("java.lang.IllegalStateException",
        "java.lang.IllegalArgumentException", "java.lang.IndexOutOfBoundsException");
    private static final Set<String> LIBRARY = Set.of("java.util.ArrayList.add", "java.util.ArrayList.get",
        "java.util.ArrayList.set", "java.util.ArrayList.size", "java.util.ArrayList.clear", "java.lang.System.arraycopy",
        "java.util.Arrays.copyOf", "java.util.Arrays.fill", "java.lang.Math.max");
    private static final Set<String> TYPES = Set.of("int", "boolean", "int[]");
    private static final Set<String> CONSTANT_TYPES = Set.of("int", "long", "boolean", "char", "java.lang.String");

    private final CompilationUnitTree unit;
    private final Trees trees;
    private int classes = 0;

    private RulesTest(CompilationUnitTree unit, Trees trees) {
        this.unit = unit;
        this.trees = trees;
    }

    public static void main(String[] args) throws IOException {
        JavaCompiler javac = ToolProvider.getSystemJavaCompiler();
        try (StandardJavaFileManager files = javac.getStandardFileManager(null, null, null)) {
            JavacTask task = (JavacTask) javac.getTask(null, files, null, List.of("-proc:none"), null,
                files.getJavaFileObjects(PROGRAM));
            CompilationUnitTree unit = task.parse().iterator().next();
            task.analyze();
            RulesTest test = new RulesTest(unit, Trees.instance(task));
            test.checkFile();
            test.scan(unit, null);
            CHECK.same("rule 11: classes", test.classes <= 12, true);
        }
        CHECK.end();
    }

    private void checkFile() {
        CHECK.same("no package line", unit.getPackageName() == null, true);
        CHECK.same("one class in the file", unit.getTypeDecls().size(), 1);
        for (ImportTree line : unit.getImports()) {
            among("rule 4", line.getQualifiedIdentifier().toString(), IMPORTS);
        }
    }

    private static void among(String rule, String used, Set<String> allowed) {
        CHECK.same(rule + ": " + used, allowed.contains(used), true);
    }

    private void never(String rule, Tree found) {
        CHECK.same(rule, found.toString(), Check.NOTHING);
    }

    private Element element(Tree tree) {
        return trees.getElement(TreePath.getPath(unit, tree));
    }

    private TypeMirror type(Tree tree) {
        return trees.getTypeMirror(TreePath.getPath(unit, tree));
    }

    private static boolean isOwn(String type) {
        return type.equals("HyphenPatterns") || type.startsWith("HyphenPatterns.");
    }

    @Override
    public Void visitClass(ClassTree tree, Void none) {
        classes++;
        int fields = 0;
        for (Tree member : tree.getMembers()) {
            CHECK.same("rule 5: a static block", member.getKind() == Tree.Kind.BLOCK, false);
            if (member instanceof VariableTree field) {
                boolean constant = field.getModifiers().getFlags().contains(Modifier.STATIC);
                fields += constant ? 0 : 1;
                if (constant) {
                    checkConstant(field);
                }
            }
        }
        CHECK.same("rule 11: fields of " + tree.getSimpleName(), fields <= 20, true);
        return super.visitClass(tree, none);
    }

    private void checkConstant(VariableTree field) {
        CHECK.same("rule 5: final " + field, field.getModifiers().getFlags().contains(Modifier.FINAL), true);
        among("rule 5", type(field).toString(), CONSTANT_TYPES);
    }

    @Override
    public Void visitVariable(VariableTree tree, Void none) {
        String type = type(tree).toString();
        String single = type.endsWith("[]") ? type.substring(0, type.length() - 2) : type;
        boolean list = type.equals("java.util.ArrayList<HyphenPatterns.Rule>");
        CHECK.same("rule 3: " + tree, TYPES.contains(type) || isOwn(single) || list, true);
        return super.visitVariable(tree, none);
    }

    @Override
    public Void visitMethod(MethodTree tree, Void none) {
        CHECK.same("rule 11: parameters of " + tree.getName(), tree.getParameters().size() <= 7, true);
        long from = trees.getSourcePositions().getStartPosition(unit, tree);
        long to = trees.getSourcePositions().getEndPosition(unit, tree);
        long lines = to < 0 ? 0 : unit.getLineMap().getLineNumber(to) - unit.getLineMap().getLineNumber(from) + 1;
        CHECK.same("rule 11: lines of " + tree.getName(), lines <= 60, true);
        return super.visitMethod(tree, none);
    }

    @Override
    public Void visitMethodInvocation(MethodInvocationTree tree, Void none) {
        Element called = element(tree.getMethodSelect());
        String owner = called.getEnclosingElement().toString();
        // The compiler itself writes super() into every constructor.
        if (!isOwn(owner) && called.getKind() != ElementKind.CONSTRUCTOR) {
            among("rule 4", owner + "." + called.getSimpleName(), LIBRARY);
        }
        return super.visitMethodInvocation(tree, none);
    }

    @Override
    public Void visitThrow(ThrowTree tree, Void none) {
        boolean made = tree.getExpression() instanceof NewClassTree;
        CHECK.same("rule 6: " + tree, made, true);
        if (made) {
            NewClassTree exception = (NewClassTree) tree.getExpression();
            among("rule 6", type(exception).toString(), THROWN);
            for (ExpressionTree text : exception.getArguments()) {
                CHECK.same("rule 6: a written text " + text, text instanceof LiteralTree, true);
            }
        }
        for (TreePath path = getCurrentPath(); path != null; path = path.getParentPath()) {
            if (path.getLeaf() instanceof MethodTree method) {
                CHECK.same("rule 6: a throw in a constructor", method.getName().contentEquals("<init>"), false);
            }
        }
        return super.visitThrow(tree, none);
    }

    @Override
    public Void visitBinary(BinaryTree tree, Void none) {
        CHECK.same("rule 10: + of texts " + tree, type(tree).toString().equals("java.lang.String"), false);
        return super.visitBinary(tree, none);
    }

    @Override
    public Void visitLiteral(LiteralTree tree, Void none) {
        if (tree.getValue() instanceof String text) {
            CHECK.same("rule 3: characters of " + text, text.chars().allMatch(c -> c <= 255), true);
        }
        return super.visitLiteral(tree, none);
    }

    @Override
    public Void visitTry(TryTree tree, Void none) {
        never("rule 6", tree);
        return super.visitTry(tree, none);
    }

    @Override
    public Void visitSynchronized(SynchronizedTree tree, Void none) {
        never("rule 6", tree);
        return super.visitSynchronized(tree, none);
    }

    @Override
    public Void visitAssert(AssertTree tree, Void none) {
        never("rule 6", tree);
        return super.visitAssert(tree, none);
    }

    @Override
    public Void visitLambdaExpression(LambdaExpressionTree tree, Void none) {
        never("rule 2", tree);
        return super.visitLambdaExpression(tree, none);
    }

    @Override
    public Void visitMemberReference(MemberReferenceTree tree, Void none) {
        never("rule 2", tree);
        return super.visitMemberReference(tree, none);
    }
}
