import com.sun.source.tree.*;
import com.sun.source.util.JavacTask;
import com.sun.source.util.TreePath;
import com.sun.source.util.TreePathScanner;
import com.sun.source.util.Trees;
import java.nio.file.Path;
import java.util.ArrayList;
import java.util.HashMap;
import java.util.HashSet;
import java.util.List;
import java.util.Map;
import java.util.Set;
import java.util.TreeSet;
import javax.lang.model.element.Element;
import javax.lang.model.element.ExecutableElement;
import javax.lang.model.element.Modifier;
import javax.lang.model.element.TypeElement;
import javax.tools.JavaCompiler;
import javax.tools.StandardJavaFileManager;
import javax.tools.ToolProvider;

/** The rules of shared/LANGUAGE.md that can be seen in the program's text, looked at with the compiler's trees. */
final class LanguageTests extends TreePathScanner<Void, Void> {
    private static final Set<String> FACE = Set.of("garden", "edge", "ring", "doubled", "swap", "mend", "aim", "grow",
            "search", "now", "ofKnot", "ofEdge", "far", "rings", "bound", "ruledOut", "table", "keep", "back",
            "isAlike", "wouldEdge", "bestMarks", "row", "isSound", "knock", "digest");
    private static final Set<String> LIBRARY = Set.of("Integer.bitCount", "Math.min", "Math.max",
            "StringBuilder.append", "StringBuilder.toString");
    private static final Set<Tree.Kind> RULED_OUT = Set.of(Tree.Kind.LAMBDA_EXPRESSION, Tree.Kind.MEMBER_REFERENCE,
            Tree.Kind.TRY, Tree.Kind.CATCH, Tree.Kind.ASSERT, Tree.Kind.SYNCHRONIZED, Tree.Kind.SWITCH_EXPRESSION,
            Tree.Kind.TYPE_CAST, Tree.Kind.INSTANCE_OF, Tree.Kind.ENHANCED_FOR_LOOP, Tree.Kind.WHILE_LOOP,
            Tree.Kind.DO_WHILE_LOOP, Tree.Kind.IMPORT, Tree.Kind.PACKAGE);

    private final Trees trees;
    private final CompilationUnitTree unit;
    private final Map<String, Set<String>> calls = new HashMap<>();
    private final Set<String> publicOnes = new TreeSet<>();
    private int classes = 0;
    private String method = null;
    private int loops = 0;

    private LanguageTests(Trees trees, CompilationUnitTree unit) {
        this.trees = trees;
        this.unit = unit;
    }

    static void run(String file) throws Exception {
        JavaCompiler compiler = ToolProvider.getSystemJavaCompiler();
        try (StandardJavaFileManager files = compiler.getStandardFileManager(null, null, null)) {
            JavacTask task = (JavacTask) compiler.getTask(null, files, null, List.of("-proc:none"), null,
                    files.getJavaFileObjects(Path.of(file)));
            for (CompilationUnitTree unit : task.parse()) {
                task.analyze();
                LanguageTests look = new LanguageTests(Trees.instance(task), unit);
                look.scan(unit, null);
                look.whole();
            }
        }
    }

    private void that(String rule, Tree tree, boolean is) {
        long line = unit.getLineMap().getLineNumber(trees.getSourcePositions().getStartPosition(unit, tree));
        Checks.that("rule " + rule + " in line " + line, is);
    }

    private void whole() {
        Checks.same("rule 1: public methods", publicOnes, new TreeSet<>(FACE));
        Checks.that("rule 11: " + classes + " classes", classes <= 12);
        for (String name : FACE) {
            int deep = depth("Shortring." + name, new ArrayList<>());
            Checks.that("rule 11: calls of " + name + " go " + deep + " deep", deep <= 8);
        }
    }

    /** How many calls stand open at most, where a method that calls itself counts once. */
    private int depth(String name, List<String> open) {
        int most = 0;
        open.add(name);
        for (String next : calls.getOrDefault(name, Set.of())) {
            if (next.equals(name)) {
                continue;
            }
            Checks.that("rule 8: " + name + " and " + next + " call one another", !open.contains(next));
            most = Math.max(most, open.contains(next) ? 0 : depth(next, open));
        }
        open.remove(open.size() - 1);
        return most + 1;
    }

    @Override
    public Void scan(Tree tree, Void nothing) {
        if (tree != null) {
            that("6, 10: " + tree.getKind(), tree, !RULED_OUT.contains(tree.getKind()));
        }
        return super.scan(tree, nothing);
    }

    @Override
    public Void visitClass(ClassTree tree, Void nothing) {
        classes++;
        boolean isOuter = getCurrentPath().getParentPath().getLeaf() instanceof CompilationUnitTree;
        Set<Modifier> flags = tree.getModifiers().getFlags();
        if (isOuter) {
            that("1: public and final", tree, flags.contains(Modifier.PUBLIC) && flags.contains(Modifier.FINAL));
        } else {
            that("1: a class inside", tree, flags.contains(Modifier.STATIC) && !flags.contains(Modifier.PUBLIC));
        }
        int fields = 0;
        for (Tree member : tree.getMembers()) {
            if (member instanceof VariableTree) {
                Set<Modifier> of = ((VariableTree) member).getModifiers().getFlags();
                that("1: fields are private", member, of.contains(Modifier.PRIVATE));
                that("5: static fields are final", member, !of.contains(Modifier.STATIC) || of.contains(Modifier.FINAL));
                fields += of.contains(Modifier.STATIC) ? 0 : 1;
            }
            that("5: no initialiser block", member, !(member instanceof BlockTree));
        }
        that("11: fields", tree, fields <= 20);
        return super.visitClass(tree, nothing);
    }

    @Override
    public Void visitMethod(MethodTree tree, Void nothing) {
        Element element = trees.getElement(getCurrentPath());
        TypeElement owner = (TypeElement) element.getEnclosingElement();
        boolean isOpen = tree.getModifiers().getFlags().contains(Modifier.PUBLIC);
        boolean isMade = tree.getName().contentEquals("<init>");
        boolean isOuter = owner.getSimpleName().contentEquals("Shortring");
        if (isOpen && !isMade) {
            publicOnes.add(tree.getName().toString());
        }
        that("1: private, or of the face", tree, isOpen == (isOuter && (isMade || FACE.contains(tree.getName().toString())))
                && (isOpen || tree.getModifiers().getFlags().contains(Modifier.PRIVATE)));
        that("1: a private method with a public one's name", tree, isOpen || !FACE.contains(tree.getName().toString()));
        that("11: parameters", tree, tree.getParameters().size() <= 7);
        long from = trees.getSourcePositions().getStartPosition(unit, tree);
        long to = trees.getSourcePositions().getEndPosition(unit, tree);
        long lines = unit.getLineMap().getLineNumber(to) - unit.getLineMap().getLineNumber(from) + 1;
        that("11: lines of a method", tree, lines <= 60);
        method = owner.getSimpleName() + "." + tree.getName();
        super.visitMethod(tree, nothing);
        method = null;
        return null;
    }

    @Override
    public Void visitMethodInvocation(MethodInvocationTree tree, Void nothing) {
        Element element = trees.getElement(getCurrentPath());
        if (element instanceof ExecutableElement && !element.getSimpleName().contentEquals("<init>")) {
            TypeElement owner = (TypeElement) element.getEnclosingElement();
            String name = owner.getSimpleName() + "." + element.getSimpleName();
            boolean isOwn = owner.getQualifiedName().toString().startsWith("Shortring");
            that("4: " + name, tree, isOwn || LIBRARY.contains(name));
            calls.computeIfAbsent(method, key -> new HashSet<>()).add(name);
            if (name.equals(method)) {
                that("8: calls itself", tree, isStatic(element) && hasGuard(element));
            }
        }
        return super.visitMethodInvocation(tree, nothing);
    }

    private static boolean isStatic(Element element) {
        return element.getModifiers().contains(Modifier.STATIC) && element.getModifiers().contains(Modifier.PRIVATE);
    }

    private static boolean hasGuard(Element element) {
        return ((ExecutableElement) element).getParameters().stream()
                .anyMatch(p -> p.getSimpleName().contentEquals("depth") || p.getSimpleName().contentEquals("knots"));
    }

    @Override
    public Void visitForLoop(ForLoopTree tree, Void nothing) {
        that("9: a loop counts against a bound", tree, tree.getCondition() != null && !tree.getUpdate().isEmpty());
        loops++;
        super.visitForLoop(tree, nothing);
        loops--;
        return null;
    }

    @Override
    public Void visitNewClass(NewClassTree tree, Void nothing) {
        that("12: an object made in a loop", tree, loops == 0 || hasThrow(getCurrentPath()));
        return super.visitNewClass(tree, nothing);
    }

    private static boolean hasThrow(TreePath path) {
        return path.getParentPath().getLeaf() instanceof ThrowTree;
    }

    @Override
    public Void visitNewArray(NewArrayTree tree, Void nothing) {
        that("12: arrays are made in constructors", tree, method != null && method.endsWith("<init>"));
        return super.visitNewArray(tree, nothing);
    }

    @Override
    public Void visitThrow(ThrowTree tree, Void nothing) {
        that("6: no throw in a constructor", tree, method != null && !method.endsWith("<init>"));
        return super.visitThrow(tree, nothing);
    }

    @Override
    public Void visitBinary(BinaryTree tree, Void nothing) {
        that("10: texts are not joined by +", tree, tree.getKind() != Tree.Kind.PLUS
                || !String.valueOf(trees.getTypeMirror(getCurrentPath())).equals("java.lang.String"));
        return super.visitBinary(tree, nothing);
    }

    @Override
    public Void visitPrimitiveType(PrimitiveTypeTree tree, Void nothing) {
        that("3: type " + tree, tree, Set.of("int", "long", "boolean", "void").contains(tree.toString()));
        return super.visitPrimitiveType(tree, nothing);
    }
}
