import com.sun.source.tree.AnnotationTree;
import com.sun.source.tree.AssertTree;
import com.sun.source.tree.BinaryTree;
import com.sun.source.tree.BlockTree;
import com.sun.source.tree.ClassTree;
import com.sun.source.tree.CompilationUnitTree;
import com.sun.source.tree.ImportTree;
import com.sun.source.tree.LambdaExpressionTree;
import com.sun.source.tree.MemberReferenceTree;
import com.sun.source.tree.MethodInvocationTree;
import com.sun.source.tree.MethodTree;
import com.sun.source.tree.NewArrayTree;
import com.sun.source.tree.NewClassTree;
import com.sun.source.tree.PrimitiveTypeTree;
import com.sun.source.tree.SynchronizedTree;
import com.sun.source.tree.ThrowTree;
import com.sun.source.tree.Tree;
import com.sun.source.tree.TryTree;
import com.sun.source.tree.TypeCastTree;
import com.sun.source.tree.VariableTree;
import com.sun.source.util.JavacTask;
import com.sun.source.util.TreePath;
import com.sun.source.util.TreePathScanner;
import com.sun.source.util.Trees;
import java.io.File;
import java.io.IOException;
import java.lang.reflect.Constructor;
import java.lang.reflect.Field;
import java.lang.reflect.Method;
import java.lang.reflect.Modifier;
import java.nio.charset.StandardCharsets;
import java.nio.file.Files;
import java.nio.file.Path;
import java.util.Arrays;
import java.util.HashMap;
import java.util.HashSet;
import java.util.List;
import java.util.Map;
import java.util.Set;
import java.util.TreeMap;
import java.util.TreeSet;
import java.util.regex.Matcher;
import java.util.regex.Pattern;
import java.util.stream.Collectors;
import javax.lang.model.element.Element;
import javax.lang.model.element.ElementKind;
import javax.lang.model.element.ExecutableElement;
import javax.tools.JavaCompiler;
import javax.tools.StandardJavaFileManager;
import javax.tools.ToolProvider;

/** The face of the document, and those rules of LANGUAGE.md that can be seen in the source. */
public final class LanguageTest {
    private static final Pattern METHOD = Pattern.compile("public (int|boolean|void) (\\w+)\\(([^)]*)\\)( throws [^;]*)?;");
    private static final int METHODS = 63;
    private static final Set<String> EXCEPTIONS = Set.of("IllegalStateException", "IllegalArgumentException",
        "IndexOutOfBoundsException", "ArithmeticException", "UnsupportedOperationException", "NoSuchElementException",
        "RuntimeException");
    private static final Set<String> LIBRARY = Set.of("String.length", "String.charAt", "Math.min", "Math.max",
        "Math.floorMod", "Integer.bitCount", "System.arraycopy", "Object.<init>");
    private static final int MOST_LINES = 60;
    private static final int MOST_PARAMETERS = 7;
    private static final int MOST_FIELDS = 20;
    private static final int MOST_CLASSES = 12;
    private static final int MOST_DEPTH = 8;

    private static int wrong = 0;
    private static int looked = 0;

    public static void main(String[] args) throws IOException {
        face();
        source();
        System.out.println(looked + " things of the source looked at, " + wrong + " are wrong");
        if (wrong != 0) {
            System.exit(1);
        }
    }

    private static void must(boolean is, String what) {
        looked++;
        if (!is) {
            wrong++;
            System.out.println(what);
        }
    }

    // ---- the face, as it was compiled ----

    private static void face() throws IOException {
        Set<String> due = documentsFace();
        must(due.size() == METHODS, "the document's face has " + due.size() + " methods");
        Set<String> got = new TreeSet<>();
        for (Method method : StairMeter.class.getDeclaredMethods()) {
            if (Modifier.isPrivate(method.getModifiers()) || method.isSynthetic()) {
                continue;
            }
            must(method.getModifiers() == Modifier.PUBLIC, method + " is public, and no more");
            String told = Arrays.stream(method.getParameterTypes()).map(Class::getSimpleName).collect(Collectors.joining(","));
            String thrown = Arrays.stream(method.getExceptionTypes()).map(x -> " " + x.getSimpleName()).collect(Collectors.joining());
            got.add(method.getReturnType().getSimpleName() + " " + method.getName() + "(" + told + ")" + thrown);
        }
        for (String one : due) {
            must(got.contains(one), "the face lacks " + one);
        }
        for (String one : got) {
            must(due.contains(one), "the face has " + one);
        }
        must(StairMeter.NONE == -1, "NONE is -1");
        must(Modifier.toString(StairMeter.class.getModifiers()).equals("public final"), "the class is public and final");
        for (Field field : StairMeter.class.getDeclaredFields()) {
            must(field.getName().equals("NONE") || Modifier.isPrivate(field.getModifiers()), field + " is private");
        }
        for (Constructor<?> made : StairMeter.class.getDeclaredConstructors()) {
            must(made.getModifiers() == Modifier.PUBLIC && made.getParameterCount() == 0, made + " is the one of the face");
        }
        for (Class<?> inside : StairMeter.class.getDeclaredClasses()) {
            int kind = inside.getModifiers();
            must(Modifier.isStatic(kind) && !Modifier.isPublic(kind) && !Modifier.isProtected(kind), inside + " is static");
        }
    }

    /** The methods of the document's page: what each answers, its name, what it takes and what it throws. */
    private static Set<String> documentsFace() throws IOException {
        String doc = Files.readString(Path.of(System.getProperty("project", "."), "..", "shared", "DOC.md"), StandardCharsets.UTF_8);
        Set<String> all = new TreeSet<>();
        Matcher told = METHOD.matcher(doc.substring(doc.indexOf("```java"), doc.indexOf("## Terms")));
        while (told.find()) {
            String taken = told.group(3).replaceAll(" \\w+(,|$)", "$1").replace(" ", "");
            String thrown = told.group(4) == null ? "" : told.group(4).replace(" throws", "").replace(",", "");
            all.add(told.group(1) + " " + told.group(2) + "(" + taken + ")" + thrown);
        }
        return all;
    }

    // ---- the source ----

    private static void source() throws IOException {
        JavaCompiler compiler = ToolProvider.getSystemJavaCompiler();
        try (StandardJavaFileManager files = compiler.getStandardFileManager(null, null, null)) {
            File file = new File(System.getProperty("project", "."), "src/main/java/StairMeter.java");
            JavacTask task = (JavacTask) compiler.getTask(null, files, null, List.of("-proc:none"), null, files.getJavaFileObjects(file));
            CompilationUnitTree unit = task.parse().iterator().next();
            task.analyze();
            Rules rules = new Rules(unit, Trees.instance(task));
            rules.scan(unit, null);
            rules.close();
        }
    }

    private static final class Rules extends TreePathScanner<Void, Void> {
        private final CompilationUnitTree unit;
        private final Trees trees;
        private final Map<String, Set<String>> calls = new TreeMap<>();
        private final Set<String> publicNames = new HashSet<>();
        private final Set<String> privateNames = new HashSet<>();
        private int classes = 0;
        private String method = "";

        Rules(CompilationUnitTree unit, Trees trees) {
            this.unit = unit;
            this.trees = trees;
        }

        private long line(Tree tree, boolean isEnd) {
            long at = isEnd ? trees.getSourcePositions().getEndPosition(unit, tree)
                    : trees.getSourcePositions().getStartPosition(unit, tree);
            return unit.getLineMap().getLineNumber(at);
        }

        private void none(Tree tree, String what) {
            must(false, "line " + line(tree, false) + ": " + what);
        }

        @Override
        public Void visitImport(ImportTree tree, Void v) {
            must(tree.toString().strip().equals("import java.util.NoSuchElementException;"), "an import: " + tree);
            return null;
        }

        @Override
        public Void visitClass(ClassTree tree, Void v) {
            classes++;
            long fields = 0;
            for (Tree member : tree.getMembers()) {
                if (member instanceof VariableTree field) {
                    boolean isStatic = field.getModifiers().getFlags().contains(javax.lang.model.element.Modifier.STATIC);
                    boolean isFinal = field.getModifiers().getFlags().contains(javax.lang.model.element.Modifier.FINAL);
                    fields += isStatic ? 0 : 1;
                    String type = String.valueOf(field.getType());
                    must(!isStatic || isFinal && Set.of("int", "long", "boolean", "char", "String").contains(type),
                        "a static field that is no constant: " + field);
                }
                must(!(member instanceof BlockTree), "a block outside of methods in " + tree.getSimpleName());
            }
            must(fields <= MOST_FIELDS, tree.getSimpleName() + " has " + fields + " fields");
            return super.visitClass(tree, v);
        }

        @Override
        public Void visitMethod(MethodTree tree, Void v) {
            ExecutableElement element = (ExecutableElement) trees.getElement(getCurrentPath());
            String before = method;
            method = name(element);
            calls.putIfAbsent(method, new TreeSet<>());
            String bare = element.getSimpleName().toString();
            if (element.getKind() == ElementKind.METHOD) {
                boolean isPublic = element.getModifiers().contains(javax.lang.model.element.Modifier.PUBLIC);
                (isPublic ? publicNames : privateNames).add(bare);
            }
            if (line(tree, true) > 0) {
                long lines = line(tree, true) - line(tree, false) + 1;
                must(lines <= MOST_LINES, method + " has " + lines + " lines");
            }
            must(tree.getParameters().size() <= MOST_PARAMETERS, method + " takes too many");
            Void answer = super.visitMethod(tree, v);
            method = before;
            return answer;
        }

        private static String name(ExecutableElement element) {
            String owner = element.getEnclosingElement().getSimpleName().toString();
            return owner + "." + element.getSimpleName() + "/" + element.getParameters().size();
        }

        private boolean isOwn(Element element) {
            Element at = element;
            while (at != null && !at.getSimpleName().contentEquals("StairMeter")) {
                at = at.getEnclosingElement();
            }
            return at != null;
        }

        private void called(ExecutableElement element, Tree tree) {
            if (isOwn(element)) {
                // What an abstract method does is what those do that stand for it.
                boolean isAbstract = element.getModifiers().contains(javax.lang.model.element.Modifier.ABSTRACT);
                List<String> all = isAbstract ? List.of("HouseLines.readLine/0", "LawLines.readLine/0") : List.of(name(element));
                calls.computeIfAbsent(method, x -> new TreeSet<>()).addAll(all);
                return;
            }
            String used = element.getEnclosingElement().getSimpleName() + "." + element.getSimpleName();
            must(LIBRARY.contains(used), "line " + line(tree, false) + ": the library's " + used);
            calls.computeIfAbsent(method, x -> new TreeSet<>()).add(used);
        }

        @Override
        public Void visitMethodInvocation(MethodInvocationTree tree, Void v) {
            Element element = trees.getElement(new TreePath(getCurrentPath(), tree.getMethodSelect()));
            called((ExecutableElement) element, tree);
            return super.visitMethodInvocation(tree, v);
        }

        @Override
        public Void visitNewClass(NewClassTree tree, Void v) {
            Element element = trees.getElement(getCurrentPath());
            if (isOwn(element)) {
                must(method.contains("<init>"), "line " + line(tree, false) + ": an object is made, but not with the StairMeter");
                called((ExecutableElement) element, tree);
            } else {
                String made = element.getEnclosingElement().getSimpleName().toString();
                must(EXCEPTIONS.contains(made) && tree.getArguments().isEmpty(), "line " + line(tree, false) + ": makes " + made);
            }
            must(tree.getClassBody() == null, "line " + line(tree, false) + ": a class without a name");
            return super.visitNewClass(tree, v);
        }

        @Override
        public Void visitNewArray(NewArrayTree tree, Void v) {
            must(method.contains("<init>"), "line " + line(tree, false) + ": rows are made, but not with the StairMeter");
            return super.visitNewArray(tree, v);
        }

        @Override
        public Void visitTypeCast(TypeCastTree tree, Void v) {
            must(tree.getType() instanceof PrimitiveTypeTree, "line " + line(tree, false) + ": a cast of an object");
            return super.visitTypeCast(tree, v);
        }

        @Override
        public Void visitThrow(ThrowTree tree, Void v) {
            must(tree.getExpression() instanceof NewClassTree && !method.contains("<init>"), "line " + line(tree, false) + ": a throw");
            return super.visitThrow(tree, v);
        }

        @Override
        public Void visitBinary(BinaryTree tree, Void v) {
            String left = String.valueOf(trees.getTypeMirror(new TreePath(getCurrentPath(), tree.getLeftOperand())));
            String right = String.valueOf(trees.getTypeMirror(new TreePath(getCurrentPath(), tree.getRightOperand())));
            must(!left.equals("java.lang.String") && !right.equals("java.lang.String"), "line " + line(tree, false) + ": texts by signs");
            return super.visitBinary(tree, v);
        }

        @Override
        public Void visitLambdaExpression(LambdaExpressionTree tree, Void v) {
            none(tree, "a lambda");
            return null;
        }

        @Override
        public Void visitMemberReference(MemberReferenceTree tree, Void v) {
            none(tree, "a method reference");
            return null;
        }

        @Override
        public Void visitTry(TryTree tree, Void v) {
            none(tree, "a try: nothing here needs one");
            return null;
        }

        @Override
        public Void visitSynchronized(SynchronizedTree tree, Void v) {
            none(tree, "synchronized");
            return null;
        }

        @Override
        public Void visitAssert(AssertTree tree, Void v) {
            none(tree, "an assert");
            return null;
        }

        @Override
        public Void visitAnnotation(AnnotationTree tree, Void v) {
            none(tree, "an annotation");
            return null;
        }

        void close() {
            must(classes <= MOST_CLASSES, classes + " classes");
            privateNames.retainAll(publicNames);
            must(privateNames.isEmpty(), "private methods of public names: " + privateNames);
            Map<String, Integer> depths = new HashMap<>();
            for (String one : calls.keySet()) {
                int deep = depth(one, new HashSet<>(), depths);
                must(deep <= MOST_DEPTH, one + " goes " + deep + " deep: " + deepest(one, depths));
            }
        }

        /** Methods that stand open at once, each once: those of a recursion count for one round of it. */
        private int depth(String one, Set<String> open, Map<String, Integer> depths) {
            if (depths.containsKey(one)) {
                return depths.get(one);
            }
            open.add(one);
            int most = 0;
            for (String other : calls.getOrDefault(one, Set.of())) {
                if (!open.contains(other)) {
                    most = Math.max(most, depth(other, open, depths));
                }
            }
            open.remove(one);
            // In a recursion it depends on where one came from.
            if (!reaches(one, one, new HashSet<>())) {
                depths.put(one, most + 1);
            }
            return most + 1;
        }

        private boolean reaches(String from, String to, Set<String> seen) {
            for (String other : calls.getOrDefault(from, Set.of())) {
                if (other.equals(to) || seen.add(other) && reaches(other, to, seen)) {
                    return true;
                }
            }
            return false;
        }

        private String deepest(String one, Map<String, Integer> depths) {
            return calls.getOrDefault(one, Set.of()).stream()
                .filter(x -> depths.getOrDefault(x, 0) + 1 == depths.getOrDefault(one, 0))
                .findFirst().map(x -> x + " > " + deepest(x, depths)).orElse("");
        }
    }
}
