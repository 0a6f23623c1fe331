import com.sun.source.tree.AssertTree;
import com.sun.source.tree.BinaryTree;
import com.sun.source.tree.ClassTree;
import com.sun.source.tree.CompilationUnitTree;
import com.sun.source.tree.IdentifierTree;
import com.sun.source.tree.LambdaExpressionTree;
import com.sun.source.tree.LiteralTree;
import com.sun.source.tree.MemberReferenceTree;
import com.sun.source.tree.MemberSelectTree;
import com.sun.source.tree.MethodTree;
import com.sun.source.tree.NewClassTree;
import com.sun.source.tree.SynchronizedTree;
import com.sun.source.tree.ThrowTree;
import com.sun.source.tree.Tree;
import com.sun.source.tree.TryTree;
import com.sun.source.tree.VariableTree;
import com.sun.source.util.JavacTask;
import com.sun.source.util.TreePath;
import com.sun.source.util.TreePathScanner;
import com.sun.source.util.Trees;
import java.io.File;
import java.io.IOException;
import java.util.List;
import java.util.Set;
import javax.lang.model.element.Modifier;
import javax.tools.JavaCompiler;
import javax.tools.StandardJavaFileManager;
import javax.tools.ToolProvider;

/** What a machine can see of ../shared/LANGUAGE.md, with the rule's number in front of each fault. */
final class RulesTest extends TreePathScanner<Void, Void> {
    private static final String SOURCE = "src/main/java/LeaseBook.java";
    private static final Set<String> EXCEPTIONS = Set.of("IllegalStateException", "IllegalArgumentException",
            "IndexOutOfBoundsException");
    private static final Set<String> STATIC_TYPES = Set.of("int", "long", "boolean", "char", "String", "int[]",
            "long[]", "char[]", "byte[]");
    /** Classes of the library that the program has no need of; it is refused rather than looked at closer. */
    private static final Set<String> UNUSED = Set.of("System", "Arrays", "Double", "Float", "Integer", "Long",
            "Object", "Character", "Thread", "Runtime", "StrictMath", "Class");
    private static final Set<String> OF_MATH = Set.of("max", "min", "abs", "floorDiv", "floorMod");

    private final Check check;
    private final Trees trees;
    private final CompilationUnitTree unit;
    private int classes;

    private RulesTest(Check check, Trees trees, CompilationUnitTree unit) {
        this.check = check;
        this.trees = trees;
        this.unit = unit;
    }

    public static void main(String[] args) throws IOException {
        JavaCompiler compiler = ToolProvider.getSystemJavaCompiler();
        Check check = new Check();
        try (StandardJavaFileManager files = compiler.getStandardFileManager(null, null, null)) {
            JavacTask task = (JavacTask) compiler.getTask(null, files, null, List.of("-proc:none"), null,
                    files.getJavaFileObjects(new File(SOURCE)));
            for (CompilationUnitTree unit : task.parse()) {
                RulesTest rules = new RulesTest(check, Trees.instance(task), unit);
                check.holds("1: no package", unit.getPackage() == null);
                check.due("4: imports", unit.getImports().size(), 0);
                check.due("1: classes in the file", unit.getTypeDecls().size(), 1);
                rules.scan(unit, null);
                check.holds("11: at most twelve classes", rules.classes <= 12);
            }
        }
        check.end("RulesTest");
    }

    private String place(Tree tree) {
        return " in line " + unit.getLineMap().getLineNumber(start(tree));
    }

    private long start(Tree tree) {
        return trees.getSourcePositions().getStartPosition(unit, tree);
    }

    private void refuse(String rule, Tree tree) {
        check.holds(rule + place(tree), false);
    }

    @Override
    public Void visitClass(ClassTree tree, Void nothing) {
        classes++;
        boolean outer = getCurrentPath().getParentPath().getLeaf() instanceof CompilationUnitTree;
        Set<Modifier> flags = tree.getModifiers().getFlags();
        check.holds("2: static and private" + place(tree),
                outer || flags.contains(Modifier.STATIC) && flags.contains(Modifier.PRIVATE));
        long fields = tree.getMembers().stream().filter(member -> member instanceof VariableTree variable
                && !variable.getModifiers().getFlags().contains(Modifier.STATIC)).count();
        check.holds("11: at most twenty fields" + place(tree), fields <= 20);
        check.holds("5: no initialiser block" + place(tree),
                tree.getMembers().stream().noneMatch(member -> member.getKind() == Tree.Kind.BLOCK));
        return super.visitClass(tree, nothing);
    }

    @Override
    public Void visitMethod(MethodTree tree, Void nothing) {
        long end = trees.getSourcePositions().getEndPosition(unit, tree);
        long lines = unit.getLineMap().getLineNumber(end) - unit.getLineMap().getLineNumber(start(tree)) + 1;
        check.holds("11: at most sixty lines" + place(tree), start(tree) < 0 || lines <= 60);
        check.holds("11: at most seven parameters" + place(tree), tree.getParameters().size() <= 7);
        check.holds("6: no equals, hashCode, toString" + place(tree),
                !Set.of("equals", "hashCode", "toString").contains(tree.getName().toString()));
        return super.visitMethod(tree, nothing);
    }

    @Override
    public Void visitVariable(VariableTree tree, Void nothing) {
        Set<Modifier> flags = tree.getModifiers().getFlags();
        if (flags.contains(Modifier.STATIC)) {
            check.holds("5: static fields are final" + place(tree), flags.contains(Modifier.FINAL));
            check.holds("5: the type of a constant" + place(tree), STATIC_TYPES.contains(tree.getType().toString()));
        }
        return super.visitVariable(tree, nothing);
    }

    @Override
    public Void visitThrow(ThrowTree tree, Void nothing) {
        check.holds("6: throw new E(\"a written text\")" + place(tree),
                tree.getExpression() instanceof NewClassTree made
                && EXCEPTIONS.contains(made.getIdentifier().toString())
                && made.getArguments().stream().allMatch(argument -> argument instanceof LiteralTree));
        for (TreePath path = getCurrentPath(); path != null; path = path.getParentPath()) {
            if (path.getLeaf() instanceof MethodTree method) {
                check.holds("6: no throw in a constructor" + place(tree), !method.getName().contentEquals("<init>"));
            }
        }
        return super.visitThrow(tree, nothing);
    }

    @Override
    public Void visitMemberSelect(MemberSelectTree tree, Void nothing) {
        if (tree.getExpression().toString().equals("Math")) {
            check.holds("4: Math." + tree.getIdentifier() + place(tree),
                    OF_MATH.contains(tree.getIdentifier().toString()));
        }
        return super.visitMemberSelect(tree, nothing);
    }

    @Override
    public Void visitIdentifier(IdentifierTree tree, Void nothing) {
        check.holds("4: " + tree.getName() + place(tree), !UNUSED.contains(tree.getName().toString()));
        return super.visitIdentifier(tree, nothing);
    }

    @Override
    public Void visitBinary(BinaryTree tree, Void nothing) {
        boolean texts = tree.getLeftOperand().getKind() == Tree.Kind.STRING_LITERAL
                || tree.getRightOperand().getKind() == Tree.Kind.STRING_LITERAL;
        check.holds("10: texts are not joined by +" + place(tree), !texts);
        return super.visitBinary(tree, nothing);
    }

    @Override
    public Void visitLambdaExpression(LambdaExpressionTree tree, Void nothing) {
        refuse("2: no lambda", tree);
        return null;
    }

    @Override
    public Void visitMemberReference(MemberReferenceTree tree, Void nothing) {
        refuse("2: no method reference", tree);
        return null;
    }

    @Override
    public Void visitTry(TryTree tree, Void nothing) {
        refuse("6: the program has no need of try", tree);
        return null;
    }

    @Override
    public Void visitSynchronized(SynchronizedTree tree, Void nothing) {
        refuse("6: no synchronized", tree);
        return null;
    }

    @Override
    public Void visitAssert(AssertTree tree, Void nothing) {
        refuse("6: no assert", tree);
        return null;
    }
}
