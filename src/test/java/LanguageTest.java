import com.sun.source.tree.*;
import com.sun.source.util.JavacTask;
import com.sun.source.util.TreePath;
import com.sun.source.util.TreePathScanner;
import com.sun.source.util.Trees;
import java.io.IOException;
import java.lang.reflect.Modifier;
import java.nio.file.Files;
import java.nio.file.Path;
import java.util.*;
import javax.lang.model.element.Element;
import javax.lang.model.element.ElementKind;
import javax.lang.model.element.ExecutableElement;
import javax.lang.model.element.TypeElement;
import javax.tools.JavaCompiler;
import javax.tools.StandardJavaFileManager;
import javax.tools.ToolProvider;

/** The rules of LANGUAGE.md that can be seen from the text of the class, and the face of the document. */
public final class LanguageTest {
    private static final Path SOURCE = Path.of("src/main/java/StripeShelf.java");
    private static final Path DOCUMENT = Path.of("../shared/DOC.md");
    private static final Set<String> LIBRARY = Set.of(
        "java.lang.String.length", "java.lang.String.charAt", "java.lang.String.isEmpty", "java.lang.String.indexOf",
        "java.lang.System.arraycopy", "java.lang.Math.min", "java.lang.Math.max", "java.lang.Math.floorMod",
        "java.lang.Integer.bitCount", "java.lang.Integer.numberOfTrailingZeros", "java.lang.Integer.numberOfLeadingZeros",
        "java.lang.Object.<init>", "java.util.NoSuchElementException.<init>");
    private static final Set<Tree.Kind> FORBIDDEN = EnumSet.of(
        Tree.Kind.LAMBDA_EXPRESSION, Tree.Kind.MEMBER_REFERENCE, Tree.Kind.SYNCHRONIZED, Tree.Kind.ASSERT, Tree.Kind.TRY,
        Tree.Kind.SWITCH_EXPRESSION, Tree.Kind.INSTANCE_OF, Tree.Kind.DOUBLE_LITERAL, Tree.Kind.FLOAT_LITERAL);
    private static final int MOST_LINES = 60;
    private static final int MOST_PARAMETERS = 7;
    private static final int MOST_CLASSES = 12;
    private static final int MOST_FIELDS = 20;
    private static final int DEEPEST = 8;

    private final Check check = new Check();
    private final Map<String, Set<String>> calls = new TreeMap<>();
    private final Set<String> publicNames = new HashSet<>();
    private final List<String> faults = new ArrayList<>();
    private int classes = 0;

    /** One walk over the whole source. */
    private final class Walk extends TreePathScanner<Void, String> {
        private final Trees trees;
        private final CompilationUnitTree unit;

        Walk(Trees trees, CompilationUnitTree unit) {
            this.trees = trees;
            this.unit = unit;
        }

        @Override
        public Void scan(Tree tree, String method) {
            if (tree != null && FORBIDDEN.contains(tree.getKind())) {
                faults.add(tree.getKind() + " in " + method);
            }
            return super.scan(tree, method);
        }

        @Override
        public Void visitImport(ImportTree tree, String method) {
            if (!tree.getQualifiedIdentifier().toString().equals("java.util.NoSuchElementException")) {
                faults.add("import " + tree.getQualifiedIdentifier());
            }
            return null;
        }

        @Override
        public Void visitClass(ClassTree tree, String method) {
            classes++;
            int fields = 0;
            for (Tree member : tree.getMembers()) {
                if (member instanceof VariableTree) {
                    Set<javax.lang.model.element.Modifier> flags = ((VariableTree) member).getModifiers().getFlags();
                    boolean isStatic = flags.contains(javax.lang.model.element.Modifier.STATIC);
                    fields += isStatic ? 0 : 1;
                    if (isStatic && !flags.contains(javax.lang.model.element.Modifier.FINAL)) {
                        faults.add("static and not final: " + member);
                    }
                }
                if (member.getKind() == Tree.Kind.BLOCK) {
                    faults.add("an initialiser block in " + tree.getSimpleName());
                }
            }
            if (fields > MOST_FIELDS) {
                faults.add(fields + " fields in " + tree.getSimpleName());
            }
            return super.visitClass(tree, method);
        }

        @Override
        public Void visitMethod(MethodTree tree, String method) {
            Element element = trees.getElement(getCurrentPath());
            String name = nameOf(element);
            calls.computeIfAbsent(name, k -> new TreeSet<>());
            long first = unit.getLineMap().getLineNumber(trees.getSourcePositions().getStartPosition(unit, tree));
            long last = unit.getLineMap().getLineNumber(trees.getSourcePositions().getEndPosition(unit, tree));
            if (last - first >= MOST_LINES) {
                faults.add(name + " has " + (last - first + 1) + " lines");
            }
            if (tree.getParameters().size() > MOST_PARAMETERS) {
                faults.add(name + " has too many parameters");
            }
            boolean face = element.getModifiers().contains(javax.lang.model.element.Modifier.PUBLIC);
            if (!face && publicNames.contains(tree.getName().toString())) {
                faults.add(name + " bears the name of a public method");
            }
            return super.visitMethod(tree, name);
        }

        @Override
        public Void visitMethodInvocation(MethodInvocationTree tree, String method) {
            called(trees.getElement(new TreePath(getCurrentPath(), tree.getMethodSelect())), method);
            return super.visitMethodInvocation(tree, method);
        }

        @Override
        public Void visitNewClass(NewClassTree tree, String method) {
            called(trees.getElement(getCurrentPath()), method);
            return super.visitNewClass(tree, method);
        }

        private void called(Element element, String method) {
            String name = nameOf(element);
            if (name.startsWith("StripeShelf")) {
                calls.computeIfAbsent(method == null ? "a field" : method, k -> new TreeSet<>()).add(name);
            } else if (!LIBRARY.contains(name)) {
                faults.add(name + " is called in " + method);
            }
        }
    }

    private static String nameOf(Element element) {
        ExecutableElement method = (ExecutableElement) element;
        String owner = ((TypeElement) method.getEnclosingElement()).getQualifiedName().toString();
        return owner + "." + (method.getKind() == ElementKind.CONSTRUCTOR ? "<init>" : method.getSimpleName());
    }

    private int depth(String method, Set<String> open) {
        if (!open.add(method)) {
            faults.add(method + " calls itself");
            return 0;
        }
        int deepest = 0;
        for (String next : calls.getOrDefault(method, Set.of())) {
            deepest = Math.max(deepest, depth(next, open));
        }
        open.remove(method);
        return deepest + 1;
    }

    private void source() throws IOException {
        JavaCompiler compiler = ToolProvider.getSystemJavaCompiler();
        try (StandardJavaFileManager files = compiler.getStandardFileManager(null, null, null)) {
            JavacTask task = (JavacTask) compiler.getTask(null, files, null, List.of("-proc:none"), null,
                files.getJavaFileObjects(SOURCE.toFile()));
            Iterable<? extends CompilationUnitTree> units = task.parse();
            task.analyze();
            for (CompilationUnitTree unit : units) {
                new Walk(Trees.instance(task), unit).scan(unit, null);
            }
        }
        for (String method : List.copyOf(calls.keySet())) {
            int depth = depth(method, new HashSet<>());
            if (depth > DEEPEST) {
                faults.add(method + " goes " + depth + " deep");
            }
        }
        for (char sign : Files.readString(SOURCE).toCharArray()) {
            if (sign > 126) {
                faults.add("a sign beyond 126 in the source");
            }
        }
        check.due("classes are at most " + MOST_CLASSES, classes <= MOST_CLASSES, true);
    }

    /** 'int feed(int,int)' for each public method, as the document and as the class has them. */
    private void face() throws IOException {
        Set<String> due = new TreeSet<>();
        for (String line : Files.readAllLines(DOCUMENT)) {
            java.util.regex.Matcher m = java.util.regex.Pattern.compile("    public (\\w+) (\\w+)\\((.*)\\).*;").matcher(line);
            if (m.matches()) {
                due.add(m.group(1) + " " + m.group(2) + "(" + m.group(3).replaceAll(" \\w+(,|$)", "$1").replace(" ", "") + ")");
            }
        }
        Set<String> got = new TreeSet<>();
        for (java.lang.reflect.Method m : StripeShelf.class.getDeclaredMethods()) {
            if (Modifier.isPublic(m.getModifiers())) {
                publicNames.add(m.getName());
                StringJoiner types = new StringJoiner(",", "(", ")");
                for (Class<?> c : m.getParameterTypes()) {
                    types.add(c.getSimpleName());
                }
                got.add(m.getReturnType().getSimpleName() + " " + m.getName() + types);
            } else if (!Modifier.isPrivate(m.getModifiers())) {
                faults.add("neither public nor private: " + m.getName());
            }
        }
        check.due("methods of the document's face", due.size(), 46);
        check.due("the face is the document's: " + due + " / " + got, due.equals(got), true);
        for (java.lang.reflect.Field f : StripeShelf.class.getDeclaredFields()) {
            boolean constant = f.getName().equals("NONE") || f.getName().equals("HIDDEN");
            if (constant != Modifier.isPublic(f.getModifiers()) || !constant && !Modifier.isPrivate(f.getModifiers())) {
                faults.add("a field that is too open: " + f.getName());
            }
        }
        check.due("public constructors", StripeShelf.class.getConstructors().length, 1);
        check.due("final", Modifier.isFinal(StripeShelf.class.getModifiers()), true);
    }

    public static void main(String[] args) throws IOException {
        LanguageTest test = new LanguageTest();
        test.face();
        test.source();
        for (String fault : test.faults) {
            System.out.println(fault);
        }
        test.check.due("faults against LANGUAGE.md", test.faults.size(), 0);
        test.check.finish("LanguageTest");
    }
}
