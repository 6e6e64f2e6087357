import com.sun.source.tree.BinaryTree;
import com.sun.source.tree.CatchTree;
import com.sun.source.tree.ClassTree;
import com.sun.source.tree.CompilationUnitTree;
import com.sun.source.tree.CompoundAssignmentTree;
import com.sun.source.tree.ExpressionTree;
import com.sun.source.tree.IdentifierTree;
import com.sun.source.tree.ImportTree;
import com.sun.source.tree.LiteralTree;
import com.sun.source.tree.MethodInvocationTree;
import com.sun.source.tree.MethodTree;
import com.sun.source.tree.NewClassTree;
import com.sun.source.tree.ThrowTree;
import com.sun.source.tree.Tree;
import com.sun.source.tree.TryTree;
import com.sun.source.tree.VariableTree;
import com.sun.source.util.JavacTask;
import com.sun.source.util.SourcePositions;
import com.sun.source.util.TreePath;
import com.sun.source.util.TreePathScanner;
import com.sun.source.util.Trees;
import java.io.IOException;
import java.nio.file.Files;
import java.nio.file.Path;
import java.util.ArrayList;
import java.util.List;
import java.util.Map;
import java.util.Set;
import java.util.TreeMap;
import java.util.TreeSet;
import javax.lang.model.element.Element;
import javax.lang.model.element.ElementKind;
import javax.lang.model.element.ExecutableElement;
import javax.lang.model.element.Modifier;
import javax.lang.model.element.TypeElement;
import javax.lang.model.type.TypeMirror;
import javax.tools.JavaCompiler;
import javax.tools.StandardJavaFileManager;
import javax.tools.ToolProvider;

/** The rules of LANGUAGE.md that the compiler's view of the program can show. */
final class LanguageTest {
    private static final int MAX_CALLS_DEEP = 8;
    private static final int MAX_PARAMETERS = 7;
    private static final int MAX_LINES = 60;
    private static final int MAX_CLASSES = 12;
    private static final int MAX_FIELDS = 20;

    /** Rule 4, as far as the program uses it; a call that is added there is added here when the rule allows it. */
    private static final Set<String> LIBRARY = Set.of(
            "java.lang.String.length()", "java.lang.String.charAt(int)",
            "java.lang.StringBuilder.append(char)", "java.lang.StringBuilder.append(int)",
            "java.lang.StringBuilder.charAt(int)", "java.lang.StringBuilder.length()",
            "java.lang.StringBuilder.setLength(int)",
            "java.lang.Math.min(int,int)", "java.lang.Math.abs(int)",
            "java.lang.System.arraycopy(java.lang.Object,int,java.lang.Object,int,int)");

    /** Rule 3, as far as the fields use it; the program's own classes come besides. */
    private static final Set<String> TYPES = Set.of("int", "long", "boolean", "int[]", "long[]", "byte[]", "boolean[]",
            "java.lang.String", "java.lang.StringBuilder");

    private static final Set<String> EXCEPTIONS = Set.of("IllegalStateException", "IllegalArgumentException",
            "IndexOutOfBoundsException", "ArithmeticException", "UnsupportedOperationException",
            "NoSuchElementException", "RuntimeException");

    private static final Set<Tree.Kind> FORBIDDEN = Set.of(Tree.Kind.LAMBDA_EXPRESSION, Tree.Kind.MEMBER_REFERENCE,
            Tree.Kind.ASSERT, Tree.Kind.SYNCHRONIZED);

    private LanguageTest() {
    }

    static void run() {
        try {
            checkProgram(Path.of(System.getProperty("project"), "src", "main", "java", "RetentionArchive.java"));
        } catch (IOException e) {
            Checks.same("the program can be read", e.toString(), "");
        }
    }

    private static void checkProgram(Path file) throws IOException {
        Rules rules = rulesOf(file);
        Checks.same("the program against LANGUAGE.md", rules.broken.toString(), "[]");
        Checks.same("rule 1: private methods with a name of the face", rules.namesInBoth(), "[]");
        Checks.same("rule 8: methods of a recursion", rules.recursive().toString(),
                "[Parser.readLine(int), Parser.readLines(int), Parser.readRepeat(int)]");
        Checks.same("rule 11: calls that go too deep", rules.tooDeep().toString(), "[]");
        Checks.same("rule 11: some twelve classes", rules.classes <= MAX_CLASSES, true);
        byte[] bytes = Files.readAllBytes(file);
        boolean plain = true;
        for (byte b : bytes) {
            plain &= b > 0;
        }
        Checks.same("rule 4: signs 1 to 127", plain, true);
    }

    private static Rules rulesOf(Path file) throws IOException {
        JavaCompiler compiler = ToolProvider.getSystemJavaCompiler();
        try (StandardJavaFileManager files = compiler.getStandardFileManager(null, null, null)) {
            JavacTask task = (JavacTask) compiler.getTask(null, files, null, List.of("-proc:none"), null,
                    files.getJavaFileObjects(file));
            Rules rules = new Rules(Trees.instance(task));
            for (CompilationUnitTree unit : task.parse()) {
                task.analyze();
                rules.scan(unit, null);
            }
            return rules;
        }
    }

    private static final class Rules extends TreePathScanner<Void, Void> {
        final List<String> broken = new ArrayList<>();
        int classes;
        private final Trees trees;
        private final Map<String, Set<String>> calls = new TreeMap<>();
        private final Set<String> publicNames = new TreeSet<>();
        private final Set<String> otherNames = new TreeSet<>();
        private String method = "";
        private boolean inConstructor;
        private boolean throwsItself;
        private boolean catches;

        Rules(Trees trees) {
            this.trees = trees;
        }

        // ---- what is asked when all is read

        String namesInBoth() {
            Set<String> both = new TreeSet<>(publicNames);
            both.retainAll(otherNames);
            return both.toString();
        }

        List<String> recursive() {
            List<String> found = new ArrayList<>();
            for (String name : calls.keySet()) {
                if (reachable(name).contains(name)) {
                    found.add(name);
                }
            }
            return found;
        }

        private Set<String> reachable(String from) {
            Set<String> seen = new TreeSet<>();
            List<String> open = new ArrayList<>(List.of(from));
            while (!open.isEmpty()) {
                for (String next : calls.getOrDefault(open.remove(open.size() - 1), Set.of())) {
                    if (seen.add(next)) {
                        open.add(next);
                    }
                }
            }
            return seen;
        }

        List<String> tooDeep() {
            List<String> found = new ArrayList<>();
            for (String name : calls.keySet()) {
                follow(new ArrayList<>(List.of(name)), found);
            }
            return found;
        }

        private void follow(List<String> path, List<String> found) {
            if (path.size() > MAX_CALLS_DEEP) {
                found.add(path.toString());
                return;
            }
            for (String next : calls.getOrDefault(path.get(path.size() - 1), Set.of())) {
                if (!path.contains(next)) {
                    path.add(next);
                    follow(path, found);
                    path.remove(path.size() - 1);
                }
            }
        }

        // ---- what is read

        private void brokenIf(boolean is, String rule, Object what) {
            if (is) {
                broken.add("rule " + rule + ": " + what + " in " + method);
            }
        }

        @Override
        public Void scan(Tree tree, Void none) {
            brokenIf(tree != null && FORBIDDEN.contains(tree.getKind()), "2, 6", tree);
            return super.scan(tree, none);
        }

        @Override
        public Void visitImport(ImportTree tree, Void none) {
            brokenIf(true, "4, an import", tree);
            return super.visitImport(tree, none);
        }

        @Override
        public Void visitClass(ClassTree tree, Void none) {
            classes++;
            Element element = trees.getElement(getCurrentPath());
            if (element.getEnclosingElement() instanceof TypeElement) {
                brokenIf(!element.getModifiers().contains(Modifier.STATIC), "2, not static", tree.getSimpleName());
                brokenIf(element.getModifiers().contains(Modifier.PUBLIC)
                        || element.getModifiers().contains(Modifier.PROTECTED), "1, not private", tree.getSimpleName());
            }
            int fields = 0;
            for (Tree member : tree.getMembers()) {
                brokenIf(member.getKind() == Tree.Kind.BLOCK, "5, an initialiser block", tree.getSimpleName());
                if (member instanceof VariableTree field) {
                    fields += field.getModifiers().getFlags().contains(Modifier.STATIC) ? 0 : 1;
                }
            }
            brokenIf(fields > MAX_FIELDS, "11, fields", tree.getSimpleName());
            return super.visitClass(tree, none);
        }

        @Override
        public Void visitMethod(MethodTree tree, Void none) {
            Element element = trees.getElement(getCurrentPath());
            method = nameOf(element);
            inConstructor = element.getKind() == ElementKind.CONSTRUCTOR;
            throwsItself = false;
            catches = false;
            calls.putIfAbsent(method, new TreeSet<>());
            if (!inConstructor) {
                Set<String> names = element.getModifiers().contains(Modifier.PUBLIC) ? publicNames : otherNames;
                names.add(tree.getName().toString());
            }
            brokenIf(tree.getParameters().size() > MAX_PARAMETERS, "11, parameters", tree.getParameters());
            brokenIf(linesOf(tree) > MAX_LINES, "11, lines", linesOf(tree));
            super.visitMethod(tree, none);
            brokenIf(throwsItself && catches, "6, a catch beside a throw", method);
            method = "";
            return null;
        }

        private long linesOf(Tree tree) {
            CompilationUnitTree unit = getCurrentPath().getCompilationUnit();
            SourcePositions at = trees.getSourcePositions();
            long first = at.getStartPosition(unit, tree);
            long last = at.getEndPosition(unit, tree);
            return last < 0 ? 0 : unit.getLineMap().getLineNumber(last) - unit.getLineMap().getLineNumber(first) + 1;
        }

        private static String nameOf(Element element) {
            return element.getEnclosingElement().getSimpleName() + "." + element;
        }

        @Override
        public Void visitMethodInvocation(MethodInvocationTree tree, Void none) {
            Element called = trees.getElement(new TreePath(getCurrentPath(), tree.getMethodSelect()));
            // StringBuilder has some of its methods from a class of the library that no program can name.
            String owner = ((TypeElement) called.getEnclosingElement()).getQualifiedName().toString()
                    .replace("AbstractStringBuilder", "StringBuilder");
            if (isOwn(owner)) {
                calls.get(method).add(nameOf(called));
            } else if (called.getKind() == ElementKind.METHOD) {
                brokenIf(!LIBRARY.contains(owner + "." + called), "4", owner + "." + called);
            }
            return super.visitMethodInvocation(tree, none);
        }

        private static boolean isOwn(String type) {
            return type.equals("RetentionArchive") || type.startsWith("RetentionArchive.");
        }

        @Override
        public Void visitNewClass(NewClassTree tree, Void none) {
            String type = typeOf(tree);
            boolean thrown = getCurrentPath().getParentPath().getLeaf() instanceof ThrowTree;
            brokenIf(!isOwn(type) && !type.equals("java.lang.StringBuilder") && !thrown, "4, 6", tree);
            return super.visitNewClass(tree, none);
        }

        private String typeOf(Tree tree) {
            TypeMirror type = trees.getTypeMirror(new TreePath(getCurrentPath(), tree));
            return String.valueOf(type);
        }

        @Override
        public Void visitThrow(ThrowTree tree, Void none) {
            throwsItself = true;
            brokenIf(inConstructor, "6, a throw in a constructor", tree);
            boolean right = tree.getExpression() instanceof NewClassTree made
                    && EXCEPTIONS.contains(made.getIdentifier().toString()) && isWrittenText(made.getArguments());
            brokenIf(!right, "6", tree);
            return super.visitThrow(tree, none);
        }

        private static boolean isWrittenText(List<? extends ExpressionTree> arguments) {
            return arguments.isEmpty() || arguments.size() == 1 && arguments.get(0) instanceof LiteralTree;
        }

        @Override
        public Void visitTry(TryTree tree, Void none) {
            catches = true;
            brokenIf(tree.getFinallyBlock() != null || !tree.getResources().isEmpty(), "6", tree);
            return super.visitTry(tree, none);
        }

        @Override
        public Void visitCatch(CatchTree tree, Void none) {
            brokenIf(!EXCEPTIONS.contains(tree.getParameter().getType().toString()), "6", tree.getParameter());
            // RuntimeException and these two are, or stand above, what the machine throws by itself.
            brokenIf(Set.of("RuntimeException", "IndexOutOfBoundsException", "ArithmeticException")
                    .contains(tree.getParameter().getType().toString()), "7, a catch of the machine's", tree.getParameter());
            new TreePathScanner<Void, Void>() {
                @Override
                public Void visitIdentifier(IdentifierTree name, Void nothing) {
                    brokenIf(name.getName().equals(tree.getParameter().getName()), "6, the caught one is used", name);
                    return null;
                }
            }.scan(new TreePath(getCurrentPath(), tree.getBlock()), null);
            return super.visitCatch(tree, none);
        }

        @Override
        public Void visitVariable(VariableTree tree, Void none) {
            Element element = trees.getElement(getCurrentPath());
            if (element.getKind() == ElementKind.FIELD) {
                String type = element.asType().toString();
                boolean own = isOwn(type.endsWith("[]") ? type.substring(0, type.length() - 2) : type);
                brokenIf(!own && !TYPES.contains(type), "3", tree);
                brokenIf(element.getModifiers().contains(Modifier.STATIC)
                        && !(element.getModifiers().contains(Modifier.FINAL) && type.equals("int")), "5", tree);
            }
            return super.visitVariable(tree, none);
        }

        @Override
        public Void visitBinary(BinaryTree tree, Void none) {
            boolean texts = isText(tree.getLeftOperand()) || isText(tree.getRightOperand());
            brokenIf(texts, "6, 10, an operator between texts", tree);
            return super.visitBinary(tree, none);
        }

        @Override
        public Void visitCompoundAssignment(CompoundAssignmentTree tree, Void none) {
            brokenIf(isText(tree.getVariable()), "10, texts joined by +", tree);
            return super.visitCompoundAssignment(tree, none);
        }

        private boolean isText(Tree tree) {
            return typeOf(tree).equals("java.lang.String");
        }
    }
}
