import com.sun.source.tree.AssertTree;
import com.sun.source.tree.ClassTree;
import com.sun.source.tree.CompilationUnitTree;
import com.sun.source.tree.ExpressionTree;
import com.sun.source.tree.IdentifierTree;
import com.sun.source.tree.ImportTree;
import com.sun.source.tree.LambdaExpressionTree;
import com.sun.source.tree.LineMap;
import com.sun.source.tree.MemberReferenceTree;
import com.sun.source.tree.MemberSelectTree;
import com.sun.source.tree.MethodInvocationTree;
import com.sun.source.tree.MethodTree;
import com.sun.source.tree.NewClassTree;
import com.sun.source.tree.SynchronizedTree;
import com.sun.source.tree.ThrowTree;
import com.sun.source.tree.Tree;
import com.sun.source.tree.TryTree;
import com.sun.source.tree.VariableTree;
import com.sun.source.util.JavacTask;
import com.sun.source.util.SourcePositions;
import com.sun.source.util.TreeScanner;
import com.sun.source.util.Trees;
import java.io.File;
import java.io.IOException;
import java.util.Map;
import java.util.Set;
import java.util.TreeMap;
import java.util.TreeSet;
import javax.lang.model.element.Modifier;
import javax.tools.JavaCompiler;
import javax.tools.StandardJavaFileManager;
import javax.tools.ToolProvider;

/** The rules of LANGUAGE.md that can be seen from the program's source without its types. */
final class LanguageTest extends TreeScanner<Void, String> {
    private static final Set<String> IMPORTS = Set.of("java.util.ArrayList", "java.util.List");
    private static final Set<String> LIBRARY = Set.of(
            "ArrayList<>", "add", "get", "set", "remove", "size", "isEmpty", "clear", "min", "max", "abs");
    private static final Set<String> EXCEPTIONS = Set.of("IllegalStateException", "IllegalArgumentException");

    private final Check check = new Check("LanguageTest");
    private final CompilationUnitTree unit;
    private final SourcePositions positions;
    private final Set<String> publicMethods = new TreeSet<>();
    private final Set<String> privateMethods = new TreeSet<>();
    private final Set<String> ownClasses = new TreeSet<>();
    private final Map<String, Set<String>> callsOf = new TreeMap<>();

    private LanguageTest(CompilationUnitTree unit, SourcePositions positions) {
        this.unit = unit;
        this.positions = positions;
    }

    public static void main(String[] args) throws IOException {
        JavaCompiler compiler = ToolProvider.getSystemJavaCompiler();
        try (StandardJavaFileManager files = compiler.getStandardFileManager(null, null, null)) {
            JavacTask task = (JavacTask) compiler.getTask(null, files, null, null, null,
                    files.getJavaFileObjects(new File("src/main/java/CallBook.java")));
            for (CompilationUnitTree unit : task.parse()) {
                new LanguageTest(unit, Trees.instance(task).getSourcePositions()).look();
            }
        }
    }

    private void look() {
        check.due("there is no package line", unit.getPackageName() == null, true);
        check.due("classes beside the public one", unit.getTypeDecls().size(), 1);
        scan(unit, "");
        for (String name : privateMethods) {
            check.due("rule 1: a public method has the private one's name " + name, publicMethods.contains(name), false);
        }
        check.due("rule 11: at most 12 classes", ownClasses.size() <= 12, true);
        for (String name : callsOf.keySet()) {
            int depth = depth(name, 1);
            check.due("rule 11: calls from " + name + " go " + depth + " deep", depth <= 8, true);
            noLibraryButTheListed(callsOf.get(name));
        }
        check.end();
    }

    private void noLibraryButTheListed(Set<String> called) {
        for (String name : called) {
            boolean own = callsOf.containsKey(name) || name.startsWith("new ");
            boolean listed = LIBRARY.contains(name) || EXCEPTIONS.contains(name);
            check.due("rule 4: " + name, own || listed, true);
        }
    }

    /** Methods are told apart by their names alone, so a name stands for all that bear it. */
    private int depth(String name, int level) {
        if (level > 300) {
            return level;
        }
        int deepest = level;
        for (String called : callsOf.getOrDefault(name, Set.of())) {
            deepest = Math.max(deepest, depth(called, level + 1));
        }
        return deepest;
    }

    private long lines(Tree tree) {
        LineMap map = unit.getLineMap();
        return map.getLineNumber(positions.getEndPosition(unit, tree))
                - map.getLineNumber(positions.getStartPosition(unit, tree)) + 1;
    }

    @Override
    public Void visitImport(ImportTree tree, String in) {
        String name = tree.getQualifiedIdentifier().toString();
        check.due("rule 4: import " + name, !tree.isStatic() && IMPORTS.contains(name), true);
        return null;
    }

    @Override
    public Void visitClass(ClassTree tree, String in) {
        String name = tree.getSimpleName().toString();
        ownClasses.add(name);
        Set<Modifier> modifiers = tree.getModifiers().getFlags();
        boolean outermost = in.isEmpty();
        check.due("rule 1: class " + name, modifiers.contains(outermost ? Modifier.PUBLIC : Modifier.STATIC), true);
        int fields = 0;
        for (Tree member : tree.getMembers()) {
            check.due("rule 5: static block in " + name, member.getKind() == Tree.Kind.BLOCK, false);
            if (member instanceof VariableTree field) {
                Set<Modifier> flags = field.getModifiers().getFlags();
                boolean isStatic = flags.contains(Modifier.STATIC);
                check.due("rule 5: " + field.getName(), !isStatic || flags.contains(Modifier.FINAL), true);
                fields += isStatic ? 0 : 1;
            }
        }
        check.due("rule 11: " + fields + " fields in " + name, fields <= 20, true);
        return super.visitClass(tree, name);
    }

    @Override
    public Void visitMethod(MethodTree tree, String in) {
        boolean makes = tree.getName().contentEquals("<init>");
        String name = makes ? "new " + in : tree.getName().toString();
        Set<Modifier> flags = tree.getModifiers().getFlags();
        if (!makes && flags.contains(Modifier.PUBLIC)) {
            publicMethods.add(name);
        } else if (!makes) {
            privateMethods.add(name);
        }
        callsOf.putIfAbsent(name, new TreeSet<>());
        check.due("rule 11: parameters of " + name, tree.getParameters().size() <= 7, true);
        check.due("rule 11: lines of " + name, lines(tree) <= 60, true);
        return super.visitMethod(tree, name);
    }

    @Override
    public Void visitMethodInvocation(MethodInvocationTree tree, String in) {
        ExpressionTree called = tree.getMethodSelect();
        if (called instanceof MemberSelectTree select) {
            callsOf.get(in).add(select.getIdentifier().toString());
        } else if (called instanceof IdentifierTree own && !own.getName().contentEquals("super")) {
            callsOf.get(in).add(own.getName().toString());
        }
        return super.visitMethodInvocation(tree, in);
    }

    @Override
    public Void visitNewClass(NewClassTree tree, String in) {
        String made = tree.getIdentifier().toString();
        callsOf.get(in).add(isOwn(made) ? "new " + made : made);
        check.due("rule 2: no anonymous class", tree.getClassBody() == null, true);
        return super.visitNewClass(tree, in);
    }

    private boolean isOwn(String made) {
        for (Tree member : ((ClassTree) unit.getTypeDecls().get(0)).getMembers()) {
            if (member instanceof ClassTree inside && inside.getSimpleName().contentEquals(made)) {
                return true;
            }
        }
        return false;
    }

    @Override
    public Void visitThrow(ThrowTree tree, String in) {
        boolean plain = tree.getExpression() instanceof NewClassTree thrown
                && EXCEPTIONS.contains(thrown.getIdentifier().toString())
                && thrown.getArguments().isEmpty();
        check.due("rule 6: " + tree, plain && !in.startsWith("new "), true);
        return super.visitThrow(tree, in);
    }

    @Override
    public Void visitTry(TryTree tree, String in) {
        return refuse("rule 6: try", in);
    }

    @Override
    public Void visitAssert(AssertTree tree, String in) {
        return refuse("rule 6: assert", in);
    }

    @Override
    public Void visitSynchronized(SynchronizedTree tree, String in) {
        return refuse("rule 6: synchronized", in);
    }

    @Override
    public Void visitLambdaExpression(LambdaExpressionTree tree, String in) {
        return refuse("rule 2: lambda", in);
    }

    @Override
    public Void visitMemberReference(MemberReferenceTree tree, String in) {
        return refuse("rule 2: method reference", in);
    }

    private Void refuse(String what, String in) {
        check.due(what + " in " + in, true, false);
        return null;
    }
}
