import com.sun.source.tree.BinaryTree;
import com.sun.source.tree.BlockTree;
import com.sun.source.tree.ClassTree;
import com.sun.source.tree.CompilationUnitTree;
import com.sun.source.tree.ExpressionTree;
import com.sun.source.tree.MethodInvocationTree;
import com.sun.source.tree.MethodTree;
import com.sun.source.tree.NewArrayTree;
import com.sun.source.tree.NewClassTree;
import com.sun.source.tree.Tree;
import com.sun.source.tree.VariableTree;
import com.sun.source.tree.WhileLoopTree;
import com.sun.source.util.JavacTask;
import com.sun.source.util.TreePath;
import com.sun.source.util.TreePathScanner;
import com.sun.source.util.Trees;
import java.nio.file.Path;
import java.util.HashMap;
import java.util.HashSet;
import java.util.List;
import java.util.Map;
import java.util.Set;
import java.util.TreeSet;
import javax.lang.model.element.Element;
import javax.lang.model.element.ExecutableElement;
import javax.lang.model.element.Modifier;
import javax.lang.model.element.TypeElement;
import javax.lang.model.type.TypeMirror;
import javax.tools.JavaCompiler;
import javax.tools.StandardJavaFileManager;
import javax.tools.ToolProvider;

/** The rules of LANGUAGE.md that the compiler's own tree of the source can tell, each by its number. */
public final class LanguageTest {
    private static final String SOURCE = "src/main/java/LongTrail.java";
    private static final Set<String> LIBRARY = Set.of("java.lang.Math.max", "java.lang.Math.min", "java.lang.Math.abs",
            "java.lang.System.arraycopy", "java.util.Arrays.copyOf", "java.util.Arrays.copyOfRange",
            "java.util.Arrays.fill", "java.lang.String.charAt", "java.lang.String.length", "java.lang.String.indexOf");
    private static final Set<String> TYPES = Set.of("int", "long", "short", "byte", "char", "boolean", "void",
            "java.lang.String");
    private static final Set<Tree.Kind> REFUSED = Set.of(Tree.Kind.LAMBDA_EXPRESSION, Tree.Kind.MEMBER_REFERENCE,
            Tree.Kind.THROW, Tree.Kind.TRY, Tree.Kind.CATCH, Tree.Kind.SYNCHRONIZED, Tree.Kind.ASSERT,
            Tree.Kind.ANNOTATION, Tree.Kind.DOUBLE_LITERAL, Tree.Kind.FLOAT_LITERAL);

    private static Trees trees;
    private static CompilationUnitTree unit;
    private static final Map<String, Set<String>> calls = new HashMap<>();
    private static final Set<String> publicNames = new TreeSet<>();
    private static final Set<String> otherNames = new TreeSet<>();
    private static final Set<String> makers = new TreeSet<>();
    private static int classes;

    public static void main(String[] args) throws Exception {
        JavaCompiler compiler = ToolProvider.getSystemJavaCompiler();
        StandardJavaFileManager files = compiler.getStandardFileManager(null, null, null);
        JavacTask task = (JavacTask) compiler.getTask(null, files, null, List.of("--release", "17"), null,
                files.getJavaFileObjects(Path.of(SOURCE)));
        unit = task.parse().iterator().next();
        task.analyze();
        trees = Trees.instance(task);
        oneClassWithoutPackage();
        new Rules().scan(unit, null);
        namesOfTheFace();
        depthOfCalls();
        objectsThatAreMade();
        Due.end("LanguageTest");
    }

    private static void refused(String rule, String what, boolean found) {
        Due.is(rule + ": " + what, found ? 1 : 0, 0);
    }

    private static void oneClassWithoutPackage() {
        refused("one file .. without a package line", "package", unit.getPackage() != null);
        refused("one public class", "classes beside one another", unit.getTypeDecls().size() != 1);
        refused("13. No clock, no randomness, no file ..", "imports beside Arrays",
                unit.getImports().stream().anyMatch(i -> !i.getQualifiedIdentifier().toString().equals("java.util.Arrays")));
    }

    private static void namesOfTheFace() {
        for (String name : otherNames) {
            refused("1. No private method bears the name of a public one.", name, publicNames.contains(name));
        }
    }

    private static void depthOfCalls() {
        for (String from : calls.keySet()) {
            int deep = deepest(from, new HashSet<>());
            refused("11. calls that are no recursion go at most eight deep", from + " goes " + deep + " deep", deep > 8);
        }
    }

    /** The most calls that stand open at once from a method on, if none stands open twice. */
    private static int deepest(String from, Set<String> open) {
        if (!open.add(from)) {
            return 0;
        }
        int most = 0;
        for (String to : calls.getOrDefault(from, Set.of())) {
            most = Math.max(most, deepest(to, open));
        }
        open.remove(from);
        return most + 1;
    }

    private static void objectsThatAreMade() {
        for (String maker : makers) {
            refused("12. What a run makes is counted .. keep it small", maker, !maker.equals("LongTrail.Tape.textFor"));
        }
        refused("11. the file has at most some twelve classes", classes + " classes", classes > 12);
    }

    private static final class Rules extends TreePathScanner<Void, Void> {
        @Override
        public Void scan(Tree tree, Void none) {
            if (tree != null) {
                refused("2., 3., 6.: what the rules leave out", at(tree) + tree.getKind(), REFUSED.contains(tree.getKind()));
            }
            return super.scan(tree, none);
        }

        @Override
        public Void visitClass(ClassTree tree, Void none) {
            classes++;
            Set<Modifier> told = tree.getModifiers().getFlags();
            boolean outermost = getCurrentPath().getParentPath().getLeaf() == unit;
            refused("2. static nested classes; no local or anonymous class", at(tree) + "class " + tree.getSimpleName(),
                    outermost ? !told.containsAll(Set.of(Modifier.PUBLIC, Modifier.FINAL))
                            : !told.contains(Modifier.STATIC) || told.contains(Modifier.PUBLIC)
                                    || told.contains(Modifier.PROTECTED));
            int fields = 0;
            for (Tree member : tree.getMembers()) {
                refused("5. no static initialiser block", at(member) + "a block", member instanceof BlockTree);
                if (member instanceof VariableTree field) {
                    fields += field.getModifiers().getFlags().contains(Modifier.STATIC) ? 0 : 1;
                    lookAtField(field);
                }
            }
            refused("11. a class some twenty fields", tree.getSimpleName() + " has " + fields, fields > 20);
            return super.visitClass(tree, none);
        }

        private void lookAtField(VariableTree field) {
            Set<Modifier> told = field.getModifiers().getFlags();
            boolean fixed = told.contains(Modifier.STATIC);
            refused("5. Static fields are final", at(field) + field.getName(), fixed && !told.contains(Modifier.FINAL));
            refused("1. no other .. package-visible member", at(field) + field.getName(),
                    !told.contains(Modifier.PRIVATE) && !told.contains(Modifier.PUBLIC));
            refused("5. constants .. and arrays .. written out in their initialiser", at(field) + field.getName(),
                    fixed && field.getInitializer() == null);
        }

        @Override
        public Void visitMethod(MethodTree tree, Void none) {
            boolean open = tree.getModifiers().getFlags().contains(Modifier.PUBLIC);
            boolean closed = tree.getModifiers().getFlags().contains(Modifier.PRIVATE);
            if (tree.getReturnType() != null) {
                (open ? publicNames : otherNames).add(tree.getName().toString());
            }
            refused("1. no other public, protected or package-visible member", at(tree) + tree.getName(), !open && !closed);
            refused("11. A method takes at most seven parameters", at(tree) + tree.getName(), tree.getParameters().size() > 7);
            long lines = line(trees.getSourcePositions().getEndPosition(unit, tree))
                    - line(trees.getSourcePositions().getStartPosition(unit, tree)) + 1;
            refused("11. Methods stay short (some sixty lines)", at(tree) + tree.getName() + ": " + lines, lines > 60);
            refused("6. No throw (none is told either)", at(tree) + tree.getName(), !tree.getThrows().isEmpty());
            calls.computeIfAbsent(here(), key -> new TreeSet<>());
            return super.visitMethod(tree, none);
        }

        @Override
        public Void visitVariable(VariableTree tree, Void none) {
            String type = trees.getTypeMirror(getCurrentPath()).toString();
            String bare = type.replaceFirst("\\[\\]$", "");
            refused("3. Types: arrays of one dimension", at(tree) + type, bare.endsWith("]"));
            refused("3. Types", at(tree) + type, !TYPES.contains(bare) && !bare.startsWith("LongTrail"));
            return super.visitVariable(tree, none);
        }

        @Override
        public Void visitMethodInvocation(MethodInvocationTree tree, Void none) {
            Element called = trees.getElement(getCurrentPath());
            if (called instanceof ExecutableElement method) {
                String name = nameOf(method);
                if (name.startsWith("LongTrail")) {
                    calls.computeIfAbsent(here(), key -> new TreeSet<>()).add(name);
                } else if (!method.getSimpleName().contentEquals("<init>")) {
                    refused("4. The library: only what stands here", at(tree) + name, !LIBRARY.contains(name));
                }
            }
            return super.visitMethodInvocation(tree, none);
        }

        @Override
        public Void visitNewClass(NewClassTree tree, Void none) {
            refused("2. no .. anonymous class", at(tree) + "new", tree.getClassBody() != null);
            refused("4. The library", at(tree) + tree.getIdentifier(), !typeOf(tree).startsWith("LongTrail"));
            noteMaker();
            return super.visitNewClass(tree, none);
        }

        @Override
        public Void visitNewArray(NewArrayTree tree, Void none) {
            noteMaker();
            return super.visitNewArray(tree, none);
        }

        /** Rows and objects that are made with the object itself are no concern; a call that makes some is. */
        private void noteMaker() {
            TreePath method = methodAround();
            if (method != null && !((MethodTree) method.getLeaf()).getName().contentEquals("<init>")) {
                makers.add(here());
            }
        }

        @Override
        public Void visitBinary(BinaryTree tree, Void none) {
            boolean ofTexts = typeOf(tree.getLeftOperand()).equals("java.lang.String")
                    || typeOf(tree.getRightOperand()).equals("java.lang.String");
            refused("6. never between two Strings; 10. not by +", at(tree) + tree, ofTexts);
            boolean divides = tree.getKind() == Tree.Kind.DIVIDE || tree.getKind() == Tree.Kind.REMAINDER;
            if (divides) {
                divisor(tree);
            }
            return super.visitBinary(tree, none);
        }

        /** A divisor is a number that is written out, or the same expression is tested in its own line. */
        private void divisor(BinaryTree tree) {
            ExpressionTree by = tree.getRightOperand();
            boolean written = by.getKind() == Tree.Kind.INT_LITERAL && !by.toString().equals("0");
            String around = "";
            for (TreePath path = getCurrentPath(); path != null && around.isEmpty(); path = path.getParentPath()) {
                around = path.getLeaf().getKind() == Tree.Kind.CONDITIONAL_EXPRESSION ? path.getLeaf().toString() : "";
            }
            refused("7. a divisor [is looked at] before it divides", at(tree) + tree,
                    !written && !around.startsWith(by + " == 0") && !around.startsWith(by + " <= 0"));
        }

        @Override
        public Void visitWhileLoop(WhileLoopTree tree, Void none) {
            String test = tree.getCondition().toString();
            refused("9. Every loop has an end that can be seen", at(tree) + test,
                    !test.matches("\\(\\w+ (<|>) \\w+ && .*"));
            return super.visitWhileLoop(tree, none);
        }

        private String typeOf(Tree tree) {
            TypeMirror type = trees.getTypeMirror(new TreePath(getCurrentPath(), tree));
            return type == null ? "" : type.toString();
        }

        private TreePath methodAround() {
            TreePath path = getCurrentPath();
            while (path != null && !(path.getLeaf() instanceof MethodTree)) {
                path = path.getParentPath();
            }
            return path;
        }

        private String here() {
            TreePath method = methodAround();
            return method == null ? "LongTrail (fields)" : nameOf((ExecutableElement) trees.getElement(method));
        }

        private static String nameOf(ExecutableElement method) {
            return ((TypeElement) method.getEnclosingElement()).getQualifiedName() + "." + method.getSimpleName();
        }

        private static String at(Tree tree) {
            return "line " + line(trees.getSourcePositions().getStartPosition(unit, tree)) + ": ";
        }

        private static long line(long position) {
            return position < 0 ? 0 : unit.getLineMap().getLineNumber(position);
        }
    }
}
