import com.sun.source.tree.AssertTree;
import com.sun.source.tree.BinaryTree;
import com.sun.source.tree.ClassTree;
import com.sun.source.tree.CompilationUnitTree;
import com.sun.source.tree.ImportTree;
import com.sun.source.tree.LambdaExpressionTree;
import com.sun.source.tree.MemberReferenceTree;
import com.sun.source.tree.MethodInvocationTree;
import com.sun.source.tree.MethodTree;
import com.sun.source.tree.NewClassTree;
import com.sun.source.tree.SynchronizedTree;
import com.sun.source.tree.ThrowTree;
import com.sun.source.tree.Tree;
import com.sun.source.tree.TryTree;
import com.sun.source.tree.VariableTree;
import com.sun.source.util.JavacTask;
import com.sun.source.util.TreePathScanner;
import com.sun.source.util.Trees;
import java.io.File;
import java.util.ArrayList;
import java.util.HashMap;
import java.util.HashSet;
import java.util.List;
import java.util.Map;
import java.util.Set;
import java.util.TreeSet;
import javax.lang.model.element.Element;
import javax.lang.model.element.ElementKind;
import javax.lang.model.element.Modifier;
import javax.tools.JavaCompiler;
import javax.tools.StandardJavaFileManager;
import javax.tools.ToolProvider;

/** Those rules of LANGUAGE.md that a look at the source can tell. Run where src/main/java is. */
final class RulesTest extends TreePathScanner<Void, Void> {
    private static final String FACE = "feed end open fault has letter held holder values met kept judge judged needed "
            + "meetings gain trade together clear on note can next ring want nights undo seed ask image octet resume status";
    // Of rule 4, what the class uses.
    private static final Set<String> LIBRARY = Set.of("String.length", "String.charAt", "System.arraycopy", "Arrays.copyOf",
            "Arrays.fill", "Math.max", "Math.min", "Math.floorDiv", "Integer.bitCount");
    private final Check c = new Check();
    private final Trees trees;
    private final CompilationUnitTree unit;
    private final Set<String> face = new TreeSet<>();
    private final List<MethodTree> hidden = new ArrayList<>();
    private final Map<Element, Set<Element>> calls = new HashMap<>();
    private Element caller = null;
    private int classes = 0;

    private RulesTest(Trees trees, CompilationUnitTree unit) {
        this.trees = trees;
        this.unit = unit;
    }

    public static void main(String[] args) throws Exception {
        JavaCompiler compiler = ToolProvider.getSystemJavaCompiler();
        StandardJavaFileManager files = compiler.getStandardFileManager(null, null, null);
        JavacTask task = (JavacTask) compiler.getTask(null, files, null, null, null,
                files.getJavaFileObjects(new File("src/main/java/WrongCook.java")));
        CompilationUnitTree unit = task.parse().iterator().next();
        task.analyze();
        RulesTest test = new RulesTest(Trees.instance(task), unit);
        test.scan(unit, null);
        test.whole();
        test.c.finish();
    }

    private void never(String what, Tree tree) {
        long line = unit.getLineMap().getLineNumber(trees.getSourcePositions().getStartPosition(unit, tree));
        c.due(what + " at line " + line, 1, 0);
    }

    private long lines(Tree tree) {
        long from = trees.getSourcePositions().getStartPosition(unit, tree);
        long to = trees.getSourcePositions().getEndPosition(unit, tree);
        return unit.getLineMap().getLineNumber(to) - unit.getLineMap().getLineNumber(from) + 1;
    }

    private void whole() {
        c.due("the face " + face, face.equals(new TreeSet<>(List.of(FACE.split(" ")))), true);
        for (MethodTree method : hidden) {
            c.due("a name of the face: " + method.getName(), face.contains(method.getName().toString()), false);
        }
        c.due("classes: " + classes, classes <= 12, true);
        int deepest = 0;
        for (Element method : calls.keySet()) {
            deepest = Math.max(deepest, depth(method, new HashSet<>()));
        }
        c.due("calls deep: " + deepest, deepest <= 8, true);
    }

    /** The longest way of calls from here, those that may come back to their caller not counted. */
    private int depth(Element method, Set<Element> open) {
        int below = 0;
        open.add(method);
        for (Element next : calls.getOrDefault(method, Set.of())) {
            if (!open.contains(next)) {
                int step = reaches(next, method, new HashSet<>()) ? 0 : 1;
                below = Math.max(below, step + depth(next, open) - 1);
            }
        }
        open.remove(method);
        return 1 + below;
    }

    private boolean reaches(Element from, Element to, Set<Element> seen) {
        if (from.equals(to)) {
            return true;
        }
        if (!seen.add(from)) {
            return false;
        }
        for (Element next : calls.getOrDefault(from, Set.of())) {
            if (reaches(next, to, seen)) {
                return true;
            }
        }
        return false;
    }

    @Override
    public Void visitImport(ImportTree tree, Void nothing) {
        Set<String> known = Set.of("java.util.Arrays", "java.util.ArrayList", "java.util.List", "java.util.Iterator");
        c.due("import " + tree.getQualifiedIdentifier(), known.contains(tree.getQualifiedIdentifier().toString()), true);
        return super.visitImport(tree, nothing);
    }

    @Override
    public Void visitClass(ClassTree tree, Void nothing) {
        classes++;
        boolean outer = getCurrentPath().getParentPath().getLeaf() == unit;
        Set<Modifier> marks = tree.getModifiers().getFlags();
        c.due("class " + tree.getSimpleName(), outer ? marks.equals(Set.of(Modifier.PUBLIC, Modifier.FINAL))
                : marks.contains(Modifier.STATIC) && !marks.contains(Modifier.PUBLIC), true);
        int fields = 0;
        for (Tree member : tree.getMembers()) {
            if (member.getKind() == Tree.Kind.BLOCK) {
                never("an initialiser block", member);
            }
            if (member instanceof VariableTree) {
                VariableTree field = (VariableTree) member;
                fields += field(field, outer) ? 1 : 0;
            }
        }
        c.due("fields of " + tree.getSimpleName() + ": " + fields, fields <= 20, true);
        return super.visitClass(tree, nothing);
    }

    private boolean field(VariableTree field, boolean outer) {
        Set<Modifier> marks = field.getModifiers().getFlags();
        boolean constant = marks.contains(Modifier.STATIC);
        boolean told = Set.of("NONE", "NOTHING").contains(field.getName().toString());
        c.due("static and final: " + field.getName(), !constant || marks.contains(Modifier.FINAL), true);
        c.due("private: " + field.getName(), !outer || marks.contains(told ? Modifier.PUBLIC : Modifier.PRIVATE), true);
        if (constant) {
            c.due("a constant's type: " + field.getType(),
                    Set.of("int", "long", "boolean", "char", "String", "int[]", "long[]", "char[]", "byte[]")
                            .contains(field.getType().toString()), true);
        }
        return !constant;
    }

    @Override
    public Void visitMethod(MethodTree tree, Void nothing) {
        Set<Modifier> marks = tree.getModifiers().getFlags();
        String name = tree.getName().toString();
        boolean outer = getCurrentPath().getParentPath().getParentPath().getLeaf() == unit;
        c.due("lines of " + name + ": " + lines(tree), lines(tree) <= 60, true);
        c.due("parameters of " + name, tree.getParameters().size() <= 7, true);
        if (!name.equals("<init>")) {
            if (outer && marks.contains(Modifier.PUBLIC)) {
                face.add(name);
            } else {
                hidden.add(tree);
                c.due("private: " + name, !outer || marks.contains(Modifier.PRIVATE), true);
            }
        }
        Element former = caller;
        caller = trees.getElement(getCurrentPath());
        calls.putIfAbsent(caller, new HashSet<>());
        super.visitMethod(tree, nothing);
        caller = former;
        return null;
    }

    private void called(Element method, Tree tree) {
        boolean own = method != null && trees.getTree(method) != null
                && (method.getKind() == ElementKind.METHOD || method.getKind() == ElementKind.CONSTRUCTOR);
        if (own && caller != null) {
            calls.get(caller).add(method);
        }
        boolean known = own || method != null && (isMadeByItself(method)
                || LIBRARY.contains(method.getEnclosingElement().getSimpleName() + "." + method.getSimpleName()));
        if (!known) {
            never("a call of " + method, tree);
        }
    }

    /** A constructor that an own class, or Object above it, has without its being written. */
    private boolean isMadeByItself(Element method) {
        Element of = method.getEnclosingElement();
        return method.getKind() == ElementKind.CONSTRUCTOR && (trees.getTree(of) != null || of.toString().equals("java.lang.Object"));
    }

    @Override
    public Void visitMethodInvocation(MethodInvocationTree tree, Void nothing) {
        called(trees.getElement(getCurrentPath()), tree);
        return super.visitMethodInvocation(tree, nothing);
    }

    @Override
    public Void visitNewClass(NewClassTree tree, Void nothing) {
        called(trees.getElement(getCurrentPath()), tree);
        if (tree.getClassBody() != null) {
            never("an anonymous class", tree);
        }
        return super.visitNewClass(tree, nothing);
    }

    @Override
    public Void visitBinary(BinaryTree tree, Void nothing) {
        boolean text = tree.getLeftOperand().getKind() == Tree.Kind.STRING_LITERAL
                || tree.getRightOperand().getKind() == Tree.Kind.STRING_LITERAL;
        if (text) {
            never("texts joined by +", tree);
        }
        return super.visitBinary(tree, nothing);
    }

    @Override
    public Void visitThrow(ThrowTree tree, Void nothing) {
        never("throw", tree);
        return null;
    }

    @Override
    public Void visitTry(TryTree tree, Void nothing) {
        never("try", tree);
        return null;
    }

    @Override
    public Void visitAssert(AssertTree tree, Void nothing) {
        never("assert", tree);
        return null;
    }

    @Override
    public Void visitSynchronized(SynchronizedTree tree, Void nothing) {
        never("synchronized", tree);
        return null;
    }

    @Override
    public Void visitLambdaExpression(LambdaExpressionTree tree, Void nothing) {
        never("a lambda", tree);
        return null;
    }

    @Override
    public Void visitMemberReference(MemberReferenceTree tree, Void nothing) {
        never("a method reference", tree);
        return null;
    }
}
