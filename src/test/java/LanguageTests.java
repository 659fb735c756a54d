import com.sun.source.tree.*;
import com.sun.source.util.JavacTask;
import com.sun.source.util.TreePath;
import com.sun.source.util.TreePathScanner;
import com.sun.source.util.Trees;
import java.nio.file.Path;
import java.util.ArrayList;
import java.util.HashMap;
import java.util.HashSet;
import java.util.List;
import java.util.Map;
import java.util.Set;
import java.util.TreeSet;
import javax.lang.model.element.Element;
import javax.lang.model.element.ExecutableElement;
import javax.lang.model.element.Modifier;
import javax.lang.model.element.TypeElement;
import javax.tools.JavaCompiler;
import javax.tools.StandardJavaFileManager;
import javax.tools.ToolProvider;

/**
 * The rules of shared/LANGUAGE.md that can be seen in the program's text, looked at with the compiler's trees: what they
 * allow passes, though the program may do without it.
 */
final class LanguageTests extends TreePathScanner<Void, Void> {
    private static final Set<String> FACE = Set.of("garden", "edge", "ring", "doubled", "swap", "mend", "aim", "grow",
            "search", "now", "ofKnot", "ofEdge", "far", "rings", "bound", "ruledOut", "table", "keep", "back",
            "isAlike", "wouldEdge", "bestMarks", "row", "isSound", "knock", "digest");
    private static final Map<String, Set<String>> LIBRARY = Map.of(
            "String", Set.of("length", "charAt", "isEmpty", "equals", "indexOf", "substring", "toCharArray"),
            "StringBuilder", Set.of("append", "charAt", "setCharAt", "setLength", "deleteCharAt", "reverse", "length",
                    "toString"),
            "List", Set.of("add", "get", "set", "remove", "size", "isEmpty", "clear", "of", "iterator"),
            "Iterator", Set.of("hasNext", "next", "iterator"),
            "Comparable", Set.of("compareTo"),
            "System", Set.of("arraycopy"),
            "Arrays", Set.of("copyOf", "copyOfRange", "fill"),
            "Array", Set.of("clone"),
            "Object", Set.of("clone"),
            "Enum", Set.of("ordinal", "values"));
    private static final Map<String, String> SAME_AS = Map.of("AbstractStringBuilder", "StringBuilder", "CharSequence",
            "StringBuilder", "ArrayList", "List", "Collection", "List", "Iterable", "Iterator");
    private static final Set<String> NUMBERS = Set.of("Integer", "Long", "Math");
    private static final Set<String> THROWN = Set.of("IllegalStateException", "IllegalArgumentException",
            "IndexOutOfBoundsException", "ArithmeticException", "UnsupportedOperationException", "NoSuchElementException",
            "RuntimeException");
    private static final Set<String> IMPORTED = Set.of("java.util.ArrayList", "java.util.List", "java.util.Iterator",
            "java.util.Arrays", "java.util.NoSuchElementException");
    private static final Set<Tree.Kind> RULED_OUT = Set.of(Tree.Kind.LAMBDA_EXPRESSION, Tree.Kind.MEMBER_REFERENCE,
            Tree.Kind.ASSERT, Tree.Kind.SYNCHRONIZED, Tree.Kind.PACKAGE);
    private static final int LINES = 70;
    private static final int CLASSES = 13;
    private static final int FIELDS = 22;
    private static final int DEEP = 8;

    private final Trees trees;
    private final CompilationUnitTree unit;
    private final Map<String, Set<String>> calls = new HashMap<>();
    private final Set<String> publicOnes = new TreeSet<>();
    private final Set<String> throwing = new HashSet<>();
    private final Set<String> trying = new HashSet<>();
    private int classes = 0;
    private String method = "";

    private LanguageTests(Trees trees, CompilationUnitTree unit) {
        this.trees = trees;
        this.unit = unit;
    }

    static void run(String file) throws Exception {
        JavaCompiler compiler = ToolProvider.getSystemJavaCompiler();
        try (StandardJavaFileManager files = compiler.getStandardFileManager(null, null, null)) {
            JavacTask task = (JavacTask) compiler.getTask(null, files, null, List.of("-proc:none"), null,
                    files.getJavaFileObjects(Path.of(file)));
            for (CompilationUnitTree unit : task.parse()) {
                task.analyze();
                LanguageTests look = new LanguageTests(Trees.instance(task), unit);
                look.scan(unit, null);
                look.whole();
            }
        }
    }

    private void that(String rule, Tree tree, boolean is) {
        long line = unit.getLineMap().getLineNumber(trees.getSourcePositions().getStartPosition(unit, tree));
        Checks.that("rule " + rule + " in line " + line, is);
    }

    private void whole() {
        Checks.same("rule 1: public methods", publicOnes, new TreeSet<>(FACE));
        Checks.that("rule 11: " + classes + " classes", classes <= CLASSES);
        for (String name : FACE) {
            int deep = depth("Shortring." + name, new ArrayList<>());
            Checks.that("rule 11: calls of " + name + " go " + deep + " deep", deep <= DEEP);
        }
        for (String name : trying) {
            Checks.that("rule 6: a throw in " + name + ", which has a try", !throwing.contains(name));
        }
    }

    /** How many own methods stand open at most, where those that call one another count once. */
    private int depth(String name, List<String> open) {
        int most = 0;
        open.add(name);
        for (String next : calls.getOrDefault(name, Set.of())) {
            most = Math.max(most, open.contains(next) ? 0 : depth(next, open));
        }
        open.remove(open.size() - 1);
        return most + 1;
    }

    private boolean isOuter(TreePath path) {
        return path.getParentPath().getLeaf() instanceof CompilationUnitTree;
    }

    @Override
    public Void scan(Tree tree, Void nothing) {
        if (tree != null) {
            that("2, 6: " + tree.getKind(), tree, !RULED_OUT.contains(tree.getKind()));
        }
        return super.scan(tree, nothing);
    }

    @Override
    public Void visitImport(ImportTree tree, Void nothing) {
        that("4: import", tree, !tree.isStatic() && IMPORTED.contains(tree.getQualifiedIdentifier().toString()));
        return super.visitImport(tree, nothing);
    }

    @Override
    public Void visitClass(ClassTree tree, Void nothing) {
        classes++;
        Set<Modifier> flags = tree.getModifiers().getFlags();
        if (isOuter(getCurrentPath())) {
            that("1: public and final", tree, flags.contains(Modifier.PUBLIC) && flags.contains(Modifier.FINAL));
        } else {
            that("1: a class inside", tree, !flags.contains(Modifier.PUBLIC) && !flags.contains(Modifier.PROTECTED));
        }
        int fields = 0;
        for (Tree member : tree.getMembers()) {
            if (member instanceof VariableTree) {
                Set<Modifier> of = ((VariableTree) member).getModifiers().getFlags();
                boolean isStatic = of.contains(Modifier.STATIC);
                that("1: a field", member, !isOuter(getCurrentPath()) || of.contains(Modifier.PRIVATE));
                that("5: static fields are final", member, !isStatic || of.contains(Modifier.FINAL));
                fields += isStatic ? 0 : 1;
            }
            that("5: no initialiser block", member, !(member instanceof BlockTree) || !((BlockTree) member).isStatic());
        }
        that("11: fields", tree, fields <= FIELDS);
        return super.visitClass(tree, nothing);
    }

    @Override
    public Void visitMethod(MethodTree tree, Void nothing) {
        TypeElement owner = (TypeElement) trees.getElement(getCurrentPath()).getEnclosingElement();
        Set<Modifier> flags = tree.getModifiers().getFlags();
        String name = tree.getName().toString();
        boolean isMade = name.equals("<init>");
        if (owner.getQualifiedName().contentEquals("Shortring")) {
            boolean isOfFace = isMade || FACE.contains(name);
            that("1: private, or of the face", tree, flags.contains(isOfFace ? Modifier.PUBLIC : Modifier.PRIVATE));
            if (!isMade && flags.contains(Modifier.PUBLIC)) {
                publicOnes.add(name);
            }
        }
        that("1: a private method with a public one's name", tree,
                !flags.contains(Modifier.PRIVATE) || !FACE.contains(name));
        that("11: parameters", tree, tree.getParameters().size() <= 7);
        that("11: lines of a method", tree, linesOf(tree) <= LINES);
        String outer = method;
        method = owner.getSimpleName() + "." + name;
        super.visitMethod(tree, nothing);
        method = outer;
        return null;
    }

    private long linesOf(Tree tree) {
        long from = trees.getSourcePositions().getStartPosition(unit, tree);
        long to = trees.getSourcePositions().getEndPosition(unit, tree);
        return unit.getLineMap().getLineNumber(to) - unit.getLineMap().getLineNumber(from) + 1;
    }

    @Override
    public Void visitMethodInvocation(MethodInvocationTree tree, Void nothing) {
        Element element = trees.getElement(getCurrentPath());
        if (element instanceof ExecutableElement && !element.getSimpleName().contentEquals("<init>")) {
            TypeElement owner = (TypeElement) element.getEnclosingElement();
            String name = owner.getSimpleName() + "." + element.getSimpleName();
            if (owner.getQualifiedName().toString().startsWith("Shortring")) {
                calls.computeIfAbsent(method, key -> new HashSet<>()).add(name);
                that("8: " + name + " calls itself", tree, !name.equals(method) || mayRecur(element));
            } else {
                that("4: " + name, tree, isInLibrary(owner.getSimpleName().toString(), element.getSimpleName().toString()));
            }
        }
        return super.visitMethodInvocation(tree, nothing);
    }

    private static boolean isInLibrary(String owner, String name) {
        if (NUMBERS.contains(owner)) {
            return !name.endsWith("Exact") && !name.startsWith("parse") && !name.equals("random") && !name.equals("toString");
        }
        return LIBRARY.getOrDefault(SAME_AS.getOrDefault(owner, owner), Set.of()).contains(name);
    }

    /** A private static method, or one of a tree of kinds. */
    private static boolean mayRecur(Element element) {
        Set<Modifier> flags = element.getModifiers();
        boolean isOfTree = !((TypeElement) element.getEnclosingElement()).getQualifiedName().contentEquals("Shortring");
        return isOfTree || flags.contains(Modifier.STATIC) && flags.contains(Modifier.PRIVATE);
    }

    @Override
    public Void visitForLoop(ForLoopTree tree, Void nothing) {
        that("9: a loop without an end", tree, tree.getCondition() != null);
        return super.visitForLoop(tree, nothing);
    }

    @Override
    public Void visitTry(TryTree tree, Void nothing) {
        trying.add(method);
        that("6: finally", tree, tree.getFinallyBlock() == null && tree.getResources().isEmpty());
        return super.visitTry(tree, nothing);
    }

    @Override
    public Void visitThrow(ThrowTree tree, Void nothing) {
        throwing.add(method);
        that("6: no throw in a constructor", tree, !method.endsWith("<init>"));
        boolean isNew = tree.getExpression() instanceof NewClassTree;
        that("6: throw new", tree, isNew);
        if (isNew) {
            NewClassTree made = (NewClassTree) tree.getExpression();
            that("6: which exception", tree, THROWN.contains(made.getIdentifier().toString()));
            that("6: a written text", tree, made.getArguments().isEmpty()
                    || made.getArguments().size() == 1 && made.getArguments().get(0).getKind() == Tree.Kind.STRING_LITERAL);
        }
        return super.visitThrow(tree, nothing);
    }

    @Override
    public Void visitLiteral(LiteralTree tree, Void nothing) {
        boolean isText = tree.getValue() instanceof String || tree.getValue() instanceof Character;
        that("4: signs are 1 to 127", tree, !isText || tree.getValue().toString().chars().allMatch(c -> c >= 1 && c <= 127));
        return super.visitLiteral(tree, nothing);
    }

    @Override
    public Void visitBinary(BinaryTree tree, Void nothing) {
        that("10: texts are not joined by +", tree, tree.getKind() != Tree.Kind.PLUS || !isText(getCurrentPath()));
        return super.visitBinary(tree, nothing);
    }

    @Override
    public Void visitCompoundAssignment(CompoundAssignmentTree tree, Void nothing) {
        that("10: texts are not joined by +=", tree, !isText(getCurrentPath()));
        return super.visitCompoundAssignment(tree, nothing);
    }

    private boolean isText(TreePath path) {
        return String.valueOf(trees.getTypeMirror(path)).equals("java.lang.String");
    }
}
