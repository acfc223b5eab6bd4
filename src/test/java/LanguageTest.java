import com.sun.source.tree.*;
import com.sun.source.util.JavacTask;
import com.sun.source.util.TreePath;
import com.sun.source.util.TreePathScanner;
import com.sun.source.util.Trees;
import java.nio.file.Path;
import java.util.HashSet;
import java.util.List;
import java.util.Set;
import javax.lang.model.element.Modifier;
import javax.tools.JavaCompiler;
import javax.tools.StandardJavaFileManager;
import javax.tools.ToolProvider;

/** Those rules of ../shared/LANGUAGE.md that can be seen from the text of the class. */
public final class LanguageTest extends TreePathScanner<Void, Void> {
    private static final int LONGEST = 60;
    private static final int MOST_CLASSES = 12;
    private static final int MOST_FIELDS = 20;
    private static final int MOST_PARAMETERS = 7;
    private static final Set<String> LIBRARY = Set.of("java.lang.Object", "java.lang.String", "java.lang.StringBuilder",
        "java.lang.Integer", "java.lang.Long", "java.lang.Math", "java.lang.System", "java.util.Arrays",
        "java.util.ArrayList", "java.util.List");

    private final CompilationUnitTree unit;
    private final Trees trees;
    private final LineMap lines;
    private final Set<String> face = new HashSet<>();
    private int classes = 0;

    private LanguageTest(CompilationUnitTree unit, Trees trees) {
        this.unit = unit;
        this.trees = trees;
        this.lines = unit.getLineMap();
    }

    public static void main(String[] args) throws Exception {
        Path file = Path.of(args.length > 0 ? args[0] : "src/main/java/UrchinSchool.java");
        JavaCompiler compiler = ToolProvider.getSystemJavaCompiler();
        try (StandardJavaFileManager files = compiler.getStandardFileManager(null, null, null)) {
            JavacTask task = (JavacTask) compiler.getTask(null, files, null, List.of("-proc:none"), null,
                files.getJavaFileObjects(file));
            CompilationUnitTree unit = task.parse().iterator().next();
            task.analyze();
            LanguageTest test = new LanguageTest(unit, Trees.instance(task));
            test.scan(unit, null);
            Check.holds("at most some twelve classes", test.classes <= MOST_CLASSES);
        }
        Check.end("LanguageTest");
    }

    private void refuse(Tree tree, String why) {
        long at = trees.getSourcePositions().getStartPosition(unit, tree);
        Check.holds("line " + lines.getLineNumber(at) + ": " + why, false);
    }

    private void must(Tree tree, String what, boolean is) {
        if (is) {
            Check.holds(what, true);
        } else {
            refuse(tree, what);
        }
    }

    private boolean isOuter() {
        TreePath above = getCurrentPath().getParentPath();
        return above.getLeaf() == unit || above.getLeaf() instanceof ClassTree && above.getParentPath().getLeaf() == unit;
    }

    @Override
    public Void visitClass(ClassTree tree, Void none) {
        classes++;
        int fields = 0;
        for (Tree member : tree.getMembers()) {
            must(member, "no initialiser block", !(member instanceof BlockTree));
            if (member instanceof VariableTree && !((VariableTree) member).getModifiers().getFlags().contains(Modifier.STATIC)) {
                fields++;
            }
        }
        must(tree, "at most some twenty fields", fields <= MOST_FIELDS);
        Set<Modifier> flags = tree.getModifiers().getFlags();
        if (getCurrentPath().getParentPath().getLeaf() == unit) {
            must(tree, "public and final", flags.contains(Modifier.PUBLIC) && flags.contains(Modifier.FINAL));
            names(tree);
        } else {
            must(tree, "a class inside is static, and not public", flags.contains(Modifier.STATIC)
                && !flags.contains(Modifier.PUBLIC) && !flags.contains(Modifier.PROTECTED));
            must(tree, "a class inside the outer one", getCurrentPath().getParentPath().getLeaf() instanceof ClassTree);
        }
        return super.visitClass(tree, none);
    }

    private void names(ClassTree tree) {
        for (Tree member : tree.getMembers()) {
            if (member instanceof MethodTree && ((MethodTree) member).getModifiers().getFlags().contains(Modifier.PUBLIC)) {
                face.add(((MethodTree) member).getName().toString());
            }
        }
    }

    @Override
    public Void visitMethod(MethodTree tree, Void none) {
        Set<Modifier> flags = tree.getModifiers().getFlags();
        String name = tree.getName().toString();
        if (isMemberOfOuter()) {
            must(tree, "public or private: " + name, flags.contains(Modifier.PUBLIC) || flags.contains(Modifier.PRIVATE));
        }
        boolean isOfFace = isMemberOfOuter() && flags.contains(Modifier.PUBLIC);
        must(tree, "no name of a public method: " + name, isOfFace || name.equals("<init>") || !face.contains(name));
        must(tree, "at most seven parameters: " + name, tree.getParameters().size() <= MOST_PARAMETERS);
        must(tree, "throws nothing: " + name, tree.getThrows().isEmpty());
        long from = lines.getLineNumber(trees.getSourcePositions().getStartPosition(unit, tree));
        long to = lines.getLineNumber(trees.getSourcePositions().getEndPosition(unit, tree));
        must(tree, "short: " + name, to < from || to - from < LONGEST);
        return super.visitMethod(tree, none);
    }

    private boolean isMemberOfOuter() {
        TreePath above = getCurrentPath().getParentPath();
        return above.getLeaf() instanceof ClassTree && above.getParentPath().getLeaf() == unit;
    }

    @Override
    public Void visitVariable(VariableTree tree, Void none) {
        Set<Modifier> flags = tree.getModifiers().getFlags();
        must(tree, "a static field is final", !flags.contains(Modifier.STATIC) || flags.contains(Modifier.FINAL));
        if (isMemberOfOuter()) {
            boolean constant = flags.contains(Modifier.PUBLIC) && flags.contains(Modifier.STATIC);
            must(tree, "private, or a constant of the face: " + tree.getName(), constant || flags.contains(Modifier.PRIVATE));
        }
        return super.visitVariable(tree, none);
    }

    @Override
    public Void visitIdentifier(IdentifierTree tree, Void none) {
        var element = trees.getElement(getCurrentPath());
        if (element != null && (element.getKind().isClass() || element.getKind().isInterface())) {
            String name = element.toString();
            must(tree, "in the library that may be used: " + name, name.startsWith("UrchinSchool") || LIBRARY.contains(name));
        }
        return super.visitIdentifier(tree, none);
    }

    @Override
    public Void visitMethodInvocation(MethodInvocationTree tree, Void none) {
        String called = tree.getMethodSelect().toString();
        for (String may : new String[] {"Arrays", "System", "Integer", "Long", "Math"}) {
            if (called.startsWith(may + ".")) {
                must(tree, "a library method that may be used: " + called, Set.of("Arrays.fill", "Arrays.copyOf",
                    "Arrays.copyOfRange", "System.arraycopy", "Integer.bitCount", "Integer.compare", "Math.max", "Math.min",
                    "Math.abs", "Math.floorMod", "Math.floorDiv").contains(called));
            }
        }
        return super.visitMethodInvocation(tree, none);
    }

    @Override
    public Void visitThrow(ThrowTree tree, Void none) {
        refuse(tree, "throw");
        return null;
    }

    @Override
    public Void visitTry(TryTree tree, Void none) {
        refuse(tree, "try");
        return null;
    }

    @Override
    public Void visitSynchronized(SynchronizedTree tree, Void none) {
        refuse(tree, "synchronized");
        return null;
    }

    @Override
    public Void visitAssert(AssertTree tree, Void none) {
        refuse(tree, "assert");
        return null;
    }

    @Override
    public Void visitLambdaExpression(LambdaExpressionTree tree, Void none) {
        refuse(tree, "lambda");
        return null;
    }

    @Override
    public Void visitMemberReference(MemberReferenceTree tree, Void none) {
        refuse(tree, "method reference");
        return null;
    }

    @Override
    public Void visitAnnotation(AnnotationTree tree, Void none) {
        refuse(tree, "annotation");
        return null;
    }

    @Override
    public Void visitNewClass(NewClassTree tree, Void none) {
        must(tree, "no anonymous class", tree.getClassBody() == null);
        return super.visitNewClass(tree, none);
    }

    @Override
    public Void visitImport(ImportTree tree, Void none) {
        String name = tree.getQualifiedIdentifier().toString();
        must(tree, "an import that may be: " + name, LIBRARY.contains(name));
        return null;
    }
}
