import com.sun.source.tree.AssertTree;
import com.sun.source.tree.ClassTree;
import com.sun.source.tree.CompilationUnitTree;
import com.sun.source.tree.ExpressionTree;
import com.sun.source.tree.IdentifierTree;
import com.sun.source.tree.InstanceOfTree;
import com.sun.source.tree.LambdaExpressionTree;
import com.sun.source.tree.LineMap;
import com.sun.source.tree.LiteralTree;
import com.sun.source.tree.MemberReferenceTree;
import com.sun.source.tree.MemberSelectTree;
import com.sun.source.tree.MethodInvocationTree;
import com.sun.source.tree.MethodTree;
import com.sun.source.tree.NewArrayTree;
import com.sun.source.tree.NewClassTree;
import com.sun.source.tree.SynchronizedTree;
import com.sun.source.tree.ThrowTree;
import com.sun.source.tree.Tree;
import com.sun.source.tree.TryTree;
import com.sun.source.tree.VariableTree;
import com.sun.source.util.JavacTask;
import com.sun.source.util.SourcePositions;
import com.sun.source.util.TreeScanner;
import com.sun.source.util.Trees;
import java.io.File;
import java.io.IOException;
import java.util.HashMap;
import java.util.HashSet;
import java.util.Map;
import java.util.Set;
import java.util.TreeSet;
import javax.lang.model.element.Modifier;
import javax.tools.JavaCompiler;
import javax.tools.StandardJavaFileManager;
import javax.tools.ToolProvider;

/** The rules of LANGUAGE.md that can be seen from the source's tree. */
public final class LanguageTest extends TreeScanner<Void, Void> {
    private static final Set<String> TYPES = Set.of("int", "long", "short", "byte", "char", "boolean", "void",
            "int[]", "long[]", "short[]", "byte[]", "char[]", "boolean[]");
    private static final Set<String> PUBLIC = Set.of("<init>", "put", "wipe", "simple", "list", "members", "field", "tag", "wrap",
            "bind", "place", "nodes", "node", "print", "printed",
            "OK", "SYNTAX", "UNDEFINED", "TYPE", "DEEP", "MANY", "RANGE", "NAME", "MISSING");

    private final Map<String, Set<String>> calls = new HashMap<>();
    private final Set<String> methods = new HashSet<>();
    private final Set<String> open = new TreeSet<>();
    private CompilationUnitTree unit;
    private SourcePositions positions;
    private LineMap lines;
    private String method = "";
    private int classes = 0;
    private int fields = 0;
    private boolean inArguments = false;

    public static void main(String[] args) throws IOException {
        JavaCompiler compiler = ToolProvider.getSystemJavaCompiler();
        try (StandardJavaFileManager files = compiler.getStandardFileManager(null, null, null)) {
            JavacTask task = (JavacTask) compiler.getTask(null, files, null, null, null,
                    files.getJavaFileObjects(new File("src/main/java/TypedText.java")));
            LanguageTest test = new LanguageTest();
            test.positions = Trees.instance(task).getSourcePositions();
            for (CompilationUnitTree unit : task.parse()) {
                test.look(unit);
            }
        }
        Check.end();
    }

    private void look(CompilationUnitTree read) {
        unit = read;
        lines = unit.getLineMap();
        Check.same("imports", 0, unit.getImports().size());
        Check.same("package", true, unit.getPackageName() == null);
        scan(unit, null);
        Check.same("classes", 1, classes);
        Check.same("fields at most forty", true, fields <= 40);
        Check.same("what is public", new TreeSet<>(PUBLIC), open);
        for (String name : methods) {
            Check.same("calls from " + name + " at most six deep", true, deep(name, 1) <= 6);
        }
    }

    /** More than a hundred stands for a recursion. */
    private int deep(String name, int level) {
        int most = level;
        if (level <= 100) {
            for (String called : calls.getOrDefault(name, Set.of())) {
                most = Math.max(most, deep(called, level + 1));
            }
        }
        return most;
    }

    private void never(Tree tree) {
        Check.same("line " + lines.getLineNumber(positions.getStartPosition(unit, tree)) + ": " + tree, "not there", "there");
    }

    private void member(String name, Set<Modifier> modifiers) {
        if (!modifiers.contains(Modifier.PRIVATE)) {
            Check.same(name + " is public", true, modifiers.contains(Modifier.PUBLIC));
            open.add(name);
        }
    }

    @Override
    public Void visitClass(ClassTree tree, Void nothing) {
        classes++;
        Check.same("modifiers of the class", Set.of(Modifier.PUBLIC, Modifier.FINAL), tree.getModifiers().getFlags());
        return super.visitClass(tree, nothing);
    }

    @Override
    public Void visitMethod(MethodTree tree, Void nothing) {
        method = tree.getName().toString();
        Check.same("one method of the name " + method, true, methods.add(method));
        member(method, tree.getModifiers().getFlags());
        Check.same("parameters of " + method + " at most seven", true, tree.getParameters().size() <= 7);
        long first = lines.getLineNumber(positions.getStartPosition(unit, tree));
        long last = lines.getLineNumber(positions.getEndPosition(unit, tree));
        Check.same("lines of " + method + " at most sixty", true, last - first < 60);
        if (tree.getReturnType() != null) {
            String type = tree.getReturnType().toString();
            Check.same("answer of " + method, true, TYPES.contains(type) && !type.endsWith("]"));
        }
        super.visitMethod(tree, nothing);
        method = "";
        return null;
    }

    @Override
    public Void visitVariable(VariableTree tree, Void nothing) {
        String type = tree.getType().toString();
        Check.same("type of " + tree.getName() + " is " + type, true, TYPES.contains(type));
        if (method.isEmpty()) {
            Set<Modifier> modifiers = tree.getModifiers().getFlags();
            member(tree.getName().toString(), modifiers);
            if (modifiers.contains(Modifier.STATIC)) {
                Check.same("constant " + tree.getName(), true,
                        modifiers.contains(Modifier.FINAL) && (type.equals("int") || type.equals("long")));
            } else {
                fields++;
            }
        }
        return super.visitVariable(tree, nothing);
    }

    @Override
    public Void visitNewArray(NewArrayTree tree, Void nothing) {
        boolean plain = method.isEmpty() && tree.getInitializers() == null && tree.getDimensions().size() == 1
                && (tree.getDimensions().get(0) instanceof IdentifierTree || tree.getDimensions().get(0) instanceof LiteralTree);
        Check.same("array made in a field's initialiser, with a constant length: " + tree, true, plain);
        return super.visitNewArray(tree, nothing);
    }

    @Override
    public Void visitMethodInvocation(MethodInvocationTree tree, Void nothing) {
        String called = tree.getMethodSelect().toString();
        if (called.equals("super")) {
            return null;
        }
        Check.same("call of " + called + " in the arguments of another", false, inArguments);
        calls.computeIfAbsent(method, name -> new HashSet<>()).add(called);
        boolean before = inArguments;
        inArguments = true;
        for (ExpressionTree argument : tree.getArguments()) {
            scan(argument, nothing);
        }
        inArguments = before;
        return null;
    }

    @Override
    public Void visitMemberSelect(MemberSelectTree tree, Void nothing) {
        never(tree);
        return null;
    }

    @Override
    public Void visitNewClass(NewClassTree tree, Void nothing) {
        never(tree);
        return null;
    }

    @Override
    public Void visitThrow(ThrowTree tree, Void nothing) {
        never(tree);
        return null;
    }

    @Override
    public Void visitTry(TryTree tree, Void nothing) {
        never(tree);
        return null;
    }

    @Override
    public Void visitSynchronized(SynchronizedTree tree, Void nothing) {
        never(tree);
        return null;
    }

    @Override
    public Void visitAssert(AssertTree tree, Void nothing) {
        never(tree);
        return null;
    }

    @Override
    public Void visitInstanceOf(InstanceOfTree tree, Void nothing) {
        never(tree);
        return null;
    }

    @Override
    public Void visitLambdaExpression(LambdaExpressionTree tree, Void nothing) {
        never(tree);
        return null;
    }

    @Override
    public Void visitMemberReference(MemberReferenceTree tree, Void nothing) {
        never(tree);
        return null;
    }

    @Override
    public Void visitLiteral(LiteralTree tree, Void nothing) {
        if (tree.getKind() == Tree.Kind.NULL_LITERAL || tree.getKind() == Tree.Kind.STRING_LITERAL) {
            never(tree);
        }
        return null;
    }
}
