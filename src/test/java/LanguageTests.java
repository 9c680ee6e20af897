import com.sun.source.tree.AssertTree;
import com.sun.source.tree.BinaryTree;
import com.sun.source.tree.ClassTree;
import com.sun.source.tree.CompilationUnitTree;
import com.sun.source.tree.DoWhileLoopTree;
import com.sun.source.tree.ExpressionTree;
import com.sun.source.tree.ForLoopTree;
import com.sun.source.tree.ImportTree;
import com.sun.source.tree.InstanceOfTree;
import com.sun.source.tree.LambdaExpressionTree;
import com.sun.source.tree.LiteralTree;
import com.sun.source.tree.MemberReferenceTree;
import com.sun.source.tree.MethodInvocationTree;
import com.sun.source.tree.MethodTree;
import com.sun.source.tree.NewArrayTree;
import com.sun.source.tree.NewClassTree;
import com.sun.source.tree.SwitchExpressionTree;
import com.sun.source.tree.SwitchTree;
import com.sun.source.tree.SynchronizedTree;
import com.sun.source.tree.ThrowTree;
import com.sun.source.tree.Tree;
import com.sun.source.tree.TryTree;
import com.sun.source.tree.TypeCastTree;
import com.sun.source.tree.VariableTree;
import com.sun.source.tree.WhileLoopTree;
import com.sun.source.util.JavacTask;
import com.sun.source.util.TreePath;
import com.sun.source.util.TreePathScanner;
import com.sun.source.util.Trees;
import java.io.File;
import java.util.ArrayList;
import java.util.HashMap;
import java.util.HashSet;
import java.util.List;
import java.util.Map;
import java.util.Set;
import java.util.TreeSet;
import javax.lang.model.element.Element;
import javax.lang.model.element.ElementKind;
import javax.lang.model.element.Modifier;
import javax.lang.model.type.ArrayType;
import javax.lang.model.type.TypeKind;
import javax.lang.model.type.TypeMirror;
import javax.tools.JavaCompiler;
import javax.tools.StandardJavaFileManager;
import javax.tools.ToolProvider;

/** Those of the rules of LANGUAGE.md, and of the page, that a machine can see in the program's text. */
public final class LanguageTests extends TreePathScanner<Void, Void> {
    private static final Set<String> LIBRARY = Set.of("java.lang.String.length", "java.lang.String.charAt",
            "java.lang.System.arraycopy", "java.util.Arrays.fill", "java.lang.Math.min", "java.lang.Math.max",
            "java.lang.Math.abs", "java.lang.Integer.bitCount", "java.lang.Long.bitCount", "java.lang.Object.<init>");
    private static int wrong;

    private final Trees trees;
    private final CompilationUnitTree unit;
    private final Map<Element, Set<Element>> calls = new HashMap<>();
    private int classes;

    private LanguageTests(Trees trees, CompilationUnitTree unit) {
        this.trees = trees;
        this.unit = unit;
    }

    public static void main(String[] args) throws Exception {
        JavaCompiler compiler = ToolProvider.getSystemJavaCompiler();
        try (StandardJavaFileManager files = compiler.getStandardFileManager(null, null, null)) {
            JavacTask task = (JavacTask) compiler.getTask(null, files, null, List.of("-proc:none"), null,
                files.getJavaFileObjects(new File(args.length > 0 ? args[0] : "src/main/java/BeastCave.java")));
            CompilationUnitTree unit = task.parse().iterator().next();
            task.analyze();
            LanguageTests tests = new LanguageTests(Trees.instance(task), unit);
            tests.scan(unit, null);
            tests.checkDepth();
            tests.say(tests.classes <= 12, unit, tests.classes + " classes");
            tests.say(unit.getPackageName() == null, unit, "a package line");
        }
        System.out.println(wrong == 0 ? "the language is kept" : wrong + " places outside the language");
        if (wrong != 0) {
            System.exit(1);
        }
    }

    private long line(Tree tree) {
        return unit.getLineMap().getLineNumber(trees.getSourcePositions().getStartPosition(unit, tree));
    }

    private long lastLine(Tree tree) {
        return unit.getLineMap().getLineNumber(trees.getSourcePositions().getEndPosition(unit, tree));
    }

    private void say(boolean holds, Tree tree, String what) {
        if (!holds) {
            wrong++;
            System.out.println("line " + line(tree) + ": " + what);
        }
    }

    private Element element(Tree tree) {
        return trees.getElement(trees.getPath(unit, tree));
    }

    private boolean isOwn(Element e) {
        return e.toString().startsWith("BeastCave") || e.getEnclosingElement() != null
            && e.getEnclosingElement().toString().startsWith("BeastCave");
    }

    @Override
    public Void visitClass(ClassTree tree, Void v) {
        classes++;
        boolean outer = tree.getSimpleName().contentEquals("BeastCave");
        Set<Modifier> flags = tree.getModifiers().getFlags();
        say(!tree.getSimpleName().isEmpty(), tree, "an anonymous class");
        say(outer || flags.contains(Modifier.STATIC), tree, "an inner class");
        long fields = 0;
        Set<String> open = new HashSet<>();
        Set<String> hidden = new HashSet<>();
        for (Tree member : tree.getMembers()) {
            if (member instanceof VariableTree field) {
                Set<Modifier> how = field.getModifiers().getFlags();
                fields += how.contains(Modifier.STATIC) ? 0 : 1;
                say(!how.contains(Modifier.STATIC) || how.contains(Modifier.FINAL), field, "a static field that is not final");
                say(!outer || how.contains(Modifier.PRIVATE) || how.contains(Modifier.PUBLIC), field, "a package-visible field");
            } else if (member instanceof MethodTree method && outer) {
                Set<Modifier> how = method.getModifiers().getFlags();
                say(how.contains(Modifier.PRIVATE) || how.contains(Modifier.PUBLIC), method, "a package-visible method");
                (how.contains(Modifier.PUBLIC) ? open : hidden).add(method.getName().toString());
            } else {
                say(member.getKind() != Tree.Kind.BLOCK, member, "an initialiser block");
            }
        }
        hidden.retainAll(open);
        say(hidden.isEmpty(), tree, "private methods with a public one's name: " + hidden);
        say(fields <= 20, tree, fields + " fields");
        return super.visitClass(tree, v);
    }

    @Override
    public Void visitMethod(MethodTree tree, Void v) {
        long lines = lastLine(tree) - line(tree) + 1;
        say(lines <= 60, tree, tree.getName() + " has " + lines + " lines");
        say(tree.getParameters().size() <= 7, tree, tree.getName() + " has too many parameters");
        say(!Set.of("equals", "hashCode", "toString").contains(tree.getName().toString()), tree, "equals, hashCode or toString");
        say(tree.getThrows().isEmpty(), tree, "throws");
        calls.computeIfAbsent(element(tree), k -> new HashSet<>());
        return super.visitMethod(tree, v);
    }

    private Element methodAround() {
        for (Tree tree : getCurrentPath()) {
            if (tree instanceof MethodTree) {
                return element(tree);
            }
        }
        return null;
    }

    @Override
    public Void visitMethodInvocation(MethodInvocationTree tree, Void v) {
        Element called = element(tree);
        if (isOwn(called)) {
            Element around = methodAround();
            if (around != null) {
                calls.computeIfAbsent(around, k -> new HashSet<>()).add(called);
            }
        } else {
            String name = called.getEnclosingElement() + "." + called.getSimpleName();
            say(LIBRARY.contains(name), tree, "a call of " + name);
        }
        return super.visitMethodInvocation(tree, v);
    }

    /** The program makes what it needs with its object: no call makes anything. */
    private void checkMaking(Tree tree) {
        Element around = methodAround();
        say(around == null || around.getKind() == ElementKind.CONSTRUCTOR, tree, "something is made outside a constructor");
    }

    @Override
    public Void visitNewClass(NewClassTree tree, Void v) {
        checkMaking(tree);
        say(isOwn(element(tree)), tree, "an object of the library");
        return super.visitNewClass(tree, v);
    }

    @Override
    public Void visitNewArray(NewArrayTree tree, Void v) {
        checkMaking(tree);
        return super.visitNewArray(tree, v);
    }

    @Override
    public Void visitBinary(BinaryTree tree, Void v) {
        String type = String.valueOf(trees.getTypeMirror(getCurrentPath()));
        say(!type.endsWith("String"), tree, "texts joined by +");
        return super.visitBinary(tree, v);
    }

    @Override
    public Void visitImport(ImportTree tree, Void v) {
        say(tree.getQualifiedIdentifier().toString().equals("java.util.Arrays"), tree, "an import");
        return super.visitImport(tree, v);
    }

    @Override
    public Void visitVariable(VariableTree tree, Void v) {
        TypeMirror type = trees.getTypeMirror(getCurrentPath());
        say(isAllowed(type), tree, "a variable of " + type);
        Set<Modifier> how = tree.getModifiers().getFlags();
        say(!how.contains(Modifier.STATIC) || type.getKind().isPrimitive() || type.toString().equals("java.lang.String"), tree,
            "a static field of " + type);
        return super.visitVariable(tree, v);
    }

    /** Of what rule 3 allows the program needs whole numbers, truths, its own objects, texts, and rows of the first ones. */
    private static boolean isAllowed(TypeMirror type) {
        if (type.getKind() == TypeKind.ARRAY) {
            TypeMirror of = ((ArrayType) type).getComponentType();
            return of.getKind() != TypeKind.ARRAY && !of.toString().equals("java.lang.String") && isAllowed(of);
        }
        return Set.of(TypeKind.INT, TypeKind.LONG, TypeKind.BYTE, TypeKind.CHAR, TypeKind.BOOLEAN).contains(type.getKind())
            || type.toString().equals("java.lang.String") || type.toString().startsWith("BeastCave");
    }

    @Override
    public Void visitLiteral(LiteralTree tree, Void v) {
        if (tree.getValue() instanceof String text) {
            say(text.chars().allMatch(c -> c >= 1 && c <= 127), tree, "a sign that is none of 1 to 127");
        }
        return super.visitLiteral(tree, v);
    }

    private void checkEnd(Tree loop, ExpressionTree condition) {
        say(condition != null && !condition.toString().contains("true"), loop, "a loop without an end");
    }

    @Override
    public Void visitForLoop(ForLoopTree tree, Void v) {
        checkEnd(tree, tree.getCondition());
        return super.visitForLoop(tree, v);
    }

    @Override
    public Void visitWhileLoop(WhileLoopTree tree, Void v) {
        checkEnd(tree, tree.getCondition());
        return super.visitWhileLoop(tree, v);
    }

    @Override
    public Void visitDoWhileLoop(DoWhileLoopTree tree, Void v) {
        checkEnd(tree, tree.getCondition());
        return super.visitDoWhileLoop(tree, v);
    }

    private void checkSelector(Tree choice, ExpressionTree selector) {
        TypeMirror type = trees.getTypeMirror(new TreePath(getCurrentPath(), selector));
        say(type.getKind().isPrimitive(), choice, "a switch on " + type);
    }

    @Override
    public Void visitSwitch(SwitchTree tree, Void v) {
        checkSelector(tree, tree.getExpression());
        return super.visitSwitch(tree, v);
    }

    @Override
    public Void visitSwitchExpression(SwitchExpressionTree tree, Void v) {
        checkSelector(tree, tree.getExpression());
        return super.visitSwitchExpression(tree, v);
    }

    @Override
    public Void visitTypeCast(TypeCastTree tree, Void v) {
        say(trees.getTypeMirror(getCurrentPath()).getKind().isPrimitive(), tree, "a cast of an object");
        return super.visitTypeCast(tree, v);
    }

    @Override
    public Void visitThrow(ThrowTree tree, Void v) {
        say(false, tree, "throw");
        return super.visitThrow(tree, v);
    }

    @Override
    public Void visitTry(TryTree tree, Void v) {
        say(false, tree, "try");
        return super.visitTry(tree, v);
    }

    @Override
    public Void visitSynchronized(SynchronizedTree tree, Void v) {
        say(false, tree, "synchronized");
        return super.visitSynchronized(tree, v);
    }

    @Override
    public Void visitAssert(AssertTree tree, Void v) {
        say(false, tree, "assert");
        return super.visitAssert(tree, v);
    }

    @Override
    public Void visitInstanceOf(InstanceOfTree tree, Void v) {
        say(false, tree, "instanceof");
        return super.visitInstanceOf(tree, v);
    }

    @Override
    public Void visitLambdaExpression(LambdaExpressionTree tree, Void v) {
        say(false, tree, "a lambda");
        return super.visitLambdaExpression(tree, v);
    }

    @Override
    public Void visitMemberReference(MemberReferenceTree tree, Void v) {
        say(false, tree, "a method reference");
        return super.visitMemberReference(tree, v);
    }

    /** Calls go at most eight deep, each round of a recursion counted once. */
    private void checkDepth() {
        Set<String> recursive = new TreeSet<>();
        int deepest = 0;
        List<Element> path = new ArrayList<>();
        for (Element method : calls.keySet()) {
            deepest = Math.max(deepest, depth(method, path, recursive));
        }
        say(deepest <= 8, unit, "calls go " + deepest + " deep");
        say(recursive.equals(Set.of("goOn", "valueOf", "bestOfGuide", "bestOfBeast", "behindMinute")), unit,
            "recursion by " + recursive);
    }

    private int depth(Element method, List<Element> path, Set<String> recursive) {
        int seen = path.indexOf(method);
        if (seen >= 0) {
            for (Element e : path.subList(seen, path.size())) {
                recursive.add(e.getSimpleName().toString());
            }
            return 0;
        }
        path.add(method);
        int deepest = 0;
        for (Element called : calls.getOrDefault(method, Set.of())) {
            deepest = Math.max(deepest, depth(called, path, recursive));
        }
        path.remove(path.size() - 1);
        return deepest + 1;
    }
}
