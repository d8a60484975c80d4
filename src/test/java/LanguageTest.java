import com.sun.source.tree.ClassTree;
import com.sun.source.tree.CompilationUnitTree;
import com.sun.source.tree.ImportTree;
import com.sun.source.tree.MemberSelectTree;
import com.sun.source.tree.MethodInvocationTree;
import com.sun.source.tree.MethodTree;
import com.sun.source.tree.NewClassTree;
import com.sun.source.tree.Tree;
import com.sun.source.tree.VariableTree;
import com.sun.source.util.JavacTask;
import com.sun.source.util.TreePathScanner;
import com.sun.source.util.Trees;
import java.io.IOException;
import java.nio.file.Path;
import java.util.EnumSet;
import java.util.List;
import java.util.Map;
import java.util.Set;
import java.util.TreeMap;
import java.util.TreeSet;
import javax.lang.model.element.Element;
import javax.lang.model.element.ElementKind;
import javax.lang.model.element.Modifier;
import javax.lang.model.type.ArrayType;
import javax.lang.model.type.TypeKind;
import javax.lang.model.type.TypeMirror;
import javax.tools.JavaCompiler;
import javax.tools.StandardJavaFileManager;
import javax.tools.ToolProvider;

/**
 * The rules of LANGUAGE.md that can be read off the text of the class. Narrower than they are: what
 * they allow and the class has no need of (lists, texts, exceptions, recursion) is not let in either.
 */
public final class LanguageTest extends TreePathScanner<Void, Void> {
    private static final Path FILE = Path.of("src/main/java/FloorQueue.java");
    private static final String OWN = "FloorQueue";
    private static final int MOST_LINES = 60;
    private static final int MOST_PARAMETERS = 7;
    private static final int MOST_FIELDS = 20;
    private static final int MOST_CLASSES = 12;
    private static final int MOST_DEPTH = 8;

    private static final Set<String> NUMBER_CLASSES = Set.of("java.lang.Integer", "java.lang.Long", "java.lang.Math");
    private static final Set<String> ROW_CALLS = Set.of("java.util.Arrays.fill", "java.util.Arrays.copyOf",
            "java.util.Arrays.copyOfRange", "java.lang.System.arraycopy");
    /** Ruled out by rules 2 and 6, or of no need here and apt to throw by themselves (rule 7). */
    private static final Set<Tree.Kind> NOT_LET_IN = EnumSet.of(Tree.Kind.LAMBDA_EXPRESSION,
            Tree.Kind.MEMBER_REFERENCE, Tree.Kind.TRY, Tree.Kind.THROW, Tree.Kind.SYNCHRONIZED, Tree.Kind.ASSERT,
            Tree.Kind.ANNOTATION, Tree.Kind.PACKAGE, Tree.Kind.STRING_LITERAL, Tree.Kind.DIVIDE,
            Tree.Kind.REMAINDER, Tree.Kind.DIVIDE_ASSIGNMENT, Tree.Kind.REMAINDER_ASSIGNMENT);

    private final Trees trees;
    private final CompilationUnitTree unit;
    private final Map<String, Set<String>> calls = new TreeMap<>();
    private String within = "";
    private int classes = 0;

    private LanguageTest(Trees trees, CompilationUnitTree unit) {
        this.trees = trees;
        this.unit = unit;
    }

    public static void main(String[] args) throws IOException {
        JavaCompiler compiler = ToolProvider.getSystemJavaCompiler();
        try (StandardJavaFileManager files = compiler.getStandardFileManager(null, null, null)) {
            JavacTask task = (JavacTask) compiler.getTask(null, files, null, List.of("--release", "17", "-proc:none"),
                    null, files.getJavaFileObjects(FILE));
            Iterable<? extends CompilationUnitTree> units = task.parse();
            task.analyze();
            for (CompilationUnitTree unit : units) {
                new LanguageTest(Trees.instance(task), unit).look();
            }
        }
        Check.end("LanguageTest");
    }

    private void look() {
        scan(unit, null);
        Check.due("rule 11: classes " + classes, classes <= MOST_CLASSES, true);
        for (String method : calls.keySet()) {
            int depth = depth(method, 1);
            Check.due("rules 8, 11: calls open in " + method + " " + depth, depth <= MOST_DEPTH, true);
        }
    }

    /** With recursion this goes on past the bound, and is told by it. */
    private int depth(String method, int open) {
        int deepest = open;
        if (open <= MOST_DEPTH) {
            for (String called : calls.getOrDefault(method, Set.of())) {
                deepest = Math.max(deepest, depth(called, open + 1));
            }
        }
        return deepest;
    }

    private void rule(String number, String what, Tree at, boolean kept) {
        long place = trees.getSourcePositions().getStartPosition(unit, at);
        // javac gives a class without a constructor one that has no place in the text.
        long line = place < 0 ? 0 : unit.getLineMap().getLineNumber(place);
        Check.due("rule " + number + ", line " + line + ": " + what, kept, true);
    }

    private long lines(Tree tree) {
        long first = trees.getSourcePositions().getStartPosition(unit, tree);
        long last = trees.getSourcePositions().getEndPosition(unit, tree);
        return last < 0 ? 0 : unit.getLineMap().getLineNumber(last) - unit.getLineMap().getLineNumber(first) + 1;
    }

    private Element here() {
        return trees.getElement(getCurrentPath());
    }

    private static String owner(Element element) {
        return element.getEnclosingElement() == null ? "" : element.getEnclosingElement().toString();
    }

    private static boolean isOwn(String className) {
        return className.equals(OWN) || className.startsWith(OWN + ".");
    }

    @Override
    public Void scan(Tree tree, Void none) {
        if (tree != null) {
            rule("2, 6, 7", "no " + tree.getKind(), tree, !NOT_LET_IN.contains(tree.getKind()));
        }
        return super.scan(tree, none);
    }

    @Override
    public Void visitImport(ImportTree tree, Void none) {
        rule("4", tree.toString().strip(), tree, tree.getQualifiedIdentifier().toString().equals("java.util.Arrays"));
        return null;
    }

    @Override
    public Void visitClass(ClassTree tree, Void none) {
        classes++;
        int fields = 0;
        for (Tree member : tree.getMembers()) {
            boolean isField = member instanceof VariableTree;
            boolean isStatic = isField && ((VariableTree) member).getModifiers().getFlags().contains(Modifier.STATIC);
            fields += isField && !isStatic ? 1 : 0;
            rule("5", "no initialiser block", member, member.getKind() != Tree.Kind.BLOCK);
        }
        rule("11", "fields " + fields, tree, fields <= MOST_FIELDS);
        Set<Modifier> flags = tree.getModifiers().getFlags();
        if (!tree.getSimpleName().contentEquals(OWN)) {
            rule("1", "a class inside is static", tree, flags.contains(Modifier.STATIC));
            rule("1", "and not seen outside", tree,
                    !flags.contains(Modifier.PUBLIC) && !flags.contains(Modifier.PROTECTED));
        }
        return super.visitClass(tree, none);
    }

    @Override
    public Void visitVariable(VariableTree tree, Void none) {
        rule("3", tree.getName() + " of type " + here().asType(), tree, isTypeLetIn(here().asType()));
        if (tree.getModifiers().getFlags().contains(Modifier.STATIC)) {
            rule("5", tree.getName() + " is final", tree, tree.getModifiers().getFlags().contains(Modifier.FINAL));
            rule("5", tree.getName() + " is a number", tree, here().asType().getKind().isPrimitive());
        }
        return super.visitVariable(tree, none);
    }

    private static boolean isTypeLetIn(TypeMirror type) {
        if (type.getKind() == TypeKind.ARRAY) {
            TypeMirror part = ((ArrayType) type).getComponentType();
            return part.getKind() != TypeKind.ARRAY && isTypeLetIn(part);
        }
        boolean isReal = type.getKind() == TypeKind.DOUBLE || type.getKind() == TypeKind.FLOAT;
        return type.getKind().isPrimitive() && !isReal || isOwn(type.toString());
    }

    @Override
    public Void visitMethod(MethodTree tree, Void none) {
        within = here() + " of " + owner(here());
        calls.putIfAbsent(within, new TreeSet<>());
        rule("11", "parameters of " + within, tree, tree.getParameters().size() <= MOST_PARAMETERS);
        rule("11", "lines of " + within, tree, lines(tree) <= MOST_LINES);
        rule("6", within + " tells of no exception", tree, tree.getThrows().isEmpty());
        return super.visitMethod(tree, none);
    }

    @Override
    public Void visitMethodInvocation(MethodInvocationTree tree, Void none) {
        Element called = here();
        String of = owner(called);
        String name = of + "." + called.getSimpleName();
        boolean isMadeByJavac = called.getKind() == ElementKind.CONSTRUCTOR;
        boolean isNumberCall = NUMBER_CLASSES.contains(of) && called.getModifiers().contains(Modifier.STATIC)
                && !name.endsWith("Exact");
        rule("4", name, tree, isOwn(of) || isMadeByJavac || isNumberCall || ROW_CALLS.contains(name));
        if (!isMadeByJavac) {
            calls.computeIfAbsent(within, key -> new TreeSet<>()).add(called + " of " + of);
        }
        return super.visitMethodInvocation(tree, none);
    }

    @Override
    public Void visitNewClass(NewClassTree tree, Void none) {
        rule("4", "new " + tree.getIdentifier(), tree, isOwn(owner(here())));
        calls.computeIfAbsent(within, key -> new TreeSet<>()).add(here() + " of " + owner(here()));
        return super.visitNewClass(tree, none);
    }

    /** The library's constants are not among its functions, so they are not let in. */
    @Override
    public Void visitMemberSelect(MemberSelectTree tree, Void none) {
        Element selected = here();
        if (selected != null && selected.getKind() == ElementKind.FIELD) {
            boolean isRowLength = selected.getSimpleName().contentEquals("length");
            rule("4", "field " + tree, tree, isRowLength || isOwn(owner(selected)));
        }
        return super.visitMemberSelect(tree, none);
    }
}
