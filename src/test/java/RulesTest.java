import com.sun.source.tree.*;
import com.sun.source.util.JavacTask;
import com.sun.source.util.TreePath;
import com.sun.source.util.TreePathScanner;
import com.sun.source.util.Trees;
import java.io.IOException;
import java.nio.file.Files;
import java.nio.file.Path;
import java.util.ArrayList;
import java.util.HashMap;
import java.util.LinkedHashSet;
import java.util.List;
import java.util.Map;
import java.util.Set;
import java.util.TreeSet;
import java.util.regex.Matcher;
import java.util.regex.Pattern;
import javax.lang.model.element.Element;
import javax.lang.model.element.ElementKind;
import javax.lang.model.element.ExecutableElement;
import javax.lang.model.element.Modifier;
import javax.lang.model.element.TypeElement;
import javax.tools.JavaCompiler;
import javax.tools.StandardJavaFileManager;
import javax.tools.ToolProvider;

/** The rules of ../shared/LANGUAGE.md that can be read off the source, and the face that ../shared/DOC.md prints. */
public final class RulesTest {
    static final Path SOURCE = Path.of("src/main/java/NearestTents.java");
    static final Path DOCUMENT = Path.of("../shared/DOC.md");
    static final Set<Tree.Kind> FORBIDDEN = Set.of(Tree.Kind.THROW, Tree.Kind.TRY, Tree.Kind.CATCH, Tree.Kind.SYNCHRONIZED, Tree.Kind.ASSERT,
            Tree.Kind.LAMBDA_EXPRESSION, Tree.Kind.MEMBER_REFERENCE, Tree.Kind.BINDING_PATTERN, Tree.Kind.ANNOTATION);
    static final Set<String> LIBRARY = Set.of("java.lang.Math", "java.lang.Integer", "java.lang.Long", "java.lang.String", "java.lang.System",
            "java.util.Arrays", "java.lang.Object");
    static final Set<String> CALLS = Set.of("abs", "min", "max", "bitCount", "length", "charAt", "arraycopy", "fill", "<init>");

    static int wrong;

    static void broken(int rule, String what) {
        wrong++;
        System.out.println("rule " + rule + ": " + what);
    }

    final Trees trees;
    final CompilationUnitTree unit;
    final Map<Element, Set<Element>> calls = new HashMap<>();
    final Set<String> face = new TreeSet<>();
    int deepest;

    RulesTest(Trees trees, CompilationUnitTree unit) {
        this.trees = trees;
        this.unit = unit;
    }

    long line(Tree tree, boolean end) {
        long at = end ? trees.getSourcePositions().getEndPosition(unit, tree) : trees.getSourcePositions().getStartPosition(unit, tree);
        return unit.getLineMap().getLineNumber(at);
    }

    final class Reader extends TreePathScanner<Void, Void> {
        Element method;
        int classes;

        Element element() {
            return trees.getElement(getCurrentPath());
        }

        @Override
        public Void scan(Tree tree, Void p) {
            if (tree != null && FORBIDDEN.contains(tree.getKind())) {
                broken(6, tree.getKind() + " in line " + line(tree, false));
            }
            return super.scan(tree, p);
        }

        @Override
        public Void visitClass(ClassTree tree, Void p) {
            Element element = element();
            classes++;
            boolean nested = element.getEnclosingElement().getKind() == ElementKind.CLASS;
            if (nested && !element.getModifiers().contains(Modifier.STATIC)) {
                broken(2, tree.getSimpleName() + " isn't static");
            }
            if (!nested && (element.getKind() != ElementKind.CLASS || !element.getModifiers().containsAll(Set.of(Modifier.PUBLIC, Modifier.FINAL)))) {
                broken(1, tree.getSimpleName() + " isn't public and final");
            }
            long fields = tree.getMembers().stream().filter(m -> m instanceof VariableTree v && !v.getModifiers().getFlags().contains(Modifier.STATIC)).count();
            if (fields > 20) {
                broken(11, tree.getSimpleName() + " has " + fields + " fields");
            }
            return super.visitClass(tree, p);
        }

        @Override
        public Void visitBlock(BlockTree tree, Void p) {
            if (tree.isStatic()) {
                broken(5, "a static initialiser block");
            }
            return super.visitBlock(tree, p);
        }

        @Override
        public Void visitVariable(VariableTree tree, Void p) {
            Element field = element();
            if (field.getKind() == ElementKind.FIELD) {
                Set<Modifier> is = field.getModifiers();
                if (is.contains(Modifier.STATIC) && !is.contains(Modifier.FINAL)) {
                    broken(5, tree.getName() + " isn't final");
                }
                boolean top = field.getEnclosingElement().toString().equals("NearestTents");
                if (top && !is.contains(Modifier.PRIVATE)) {
                    broken(1, tree.getName() + " isn't private");
                }
                Element before = method;
                method = field;
                super.visitVariable(tree, p);
                method = before;
                return null;
            }
            return super.visitVariable(tree, p);
        }

        @Override
        public Void visitMethod(MethodTree tree, Void p) {
            Element before = method;
            method = element();
            calls.computeIfAbsent(method, e -> new LinkedHashSet<>());
            if (trees.getSourcePositions().getEndPosition(unit, tree) > 0) {
                long lines = line(tree, true) - line(tree, false) + 1;
                if (lines > 60) {
                    broken(11, tree.getName() + " has " + lines + " lines");
                }
            }
            if (tree.getParameters().size() > 7) {
                broken(11, tree.getName() + " takes " + tree.getParameters().size() + " parameters");
            }
            if (method.getEnclosingElement().toString().equals("NearestTents")) {
                if (method.getModifiers().contains(Modifier.PUBLIC)) {
                    face.add(signature((ExecutableElement) method));
                } else if (!method.getModifiers().contains(Modifier.PRIVATE)) {
                    broken(1, tree.getName() + " is neither of the face nor private");
                }
            }
            super.visitMethod(tree, p);
            method = before;
            return null;
        }

        String signature(ExecutableElement e) {
            StringBuilder s = new StringBuilder(e.getKind() == ElementKind.CONSTRUCTOR ? "NearestTents" : e.getReturnType() + " " + e.getSimpleName());
            s.append('(');
            e.getParameters().forEach(v -> s.append(s.charAt(s.length() - 1) == '(' ? "" : ", ").append(v.asType()).append(' ').append(v.getSimpleName()));
            return s.append(')').toString();
        }

        @Override
        public Void visitMethodInvocation(MethodInvocationTree tree, Void p) {
            called(element(), tree);
            return super.visitMethodInvocation(tree, p);
        }

        @Override
        public Void visitNewClass(NewClassTree tree, Void p) {
            if (tree.getClassBody() != null) {
                broken(2, "an anonymous class in line " + line(tree, false));
            }
            called(element(), tree);
            return super.visitNewClass(tree, p);
        }

        void called(Element callee, Tree tree) {
            String owner = ((TypeElement) callee.getEnclosingElement()).getQualifiedName().toString();
            if (owner.startsWith("NearestTents")) {
                if (method != null) {
                    calls.computeIfAbsent(method, e -> new LinkedHashSet<>()).add(callee);
                }
            } else if (!LIBRARY.contains(owner) || !CALLS.contains(callee.getSimpleName().toString())) {
                broken(4, owner + "." + callee.getSimpleName() + " in line " + line(tree, false));
            }
        }

        @Override
        public Void visitBinary(BinaryTree tree, Void p) {
            if (tree.getKind() == Tree.Kind.PLUS
                    && trees.getTypeMirror(new TreePath(getCurrentPath(), tree.getLeftOperand())).toString().equals("java.lang.String")) {
                broken(10, "texts joined by + in line " + line(tree, false));
            }
            return super.visitBinary(tree, p);
        }
    }

    /** How many calls stand open at once at the most; a method that comes back to itself is told as a fault. */
    int depth(Element method, List<Element> open) {
        if (open.contains(method)) {
            broken(8, method + " calls itself");
            return 0;
        }
        open.add(method);
        int deepest = 0;
        for (Element callee : calls.getOrDefault(method, Set.of())) {
            deepest = Math.max(deepest, depth(callee, open));
        }
        open.remove(open.size() - 1);
        return 1 + deepest;
    }

    void check() throws IOException {
        Reader reader = new Reader();
        reader.scan(unit, null);
        if (reader.classes > 12) {
            broken(11, reader.classes + " classes");
        }
        for (ImportTree imported : unit.getImports()) {
            if (!imported.getQualifiedIdentifier().toString().equals("java.util.Arrays")) {
                broken(4, "import of " + imported.getQualifiedIdentifier());
            }
        }
        Set<String> publicNames = new TreeSet<>();
        face.forEach(s -> publicNames.add(s.replaceAll("^int |\\(.*", "")));
        for (Element method : calls.keySet()) {
            boolean ofFace = method.getModifiers().contains(Modifier.PUBLIC);
            if (method.getKind() == ElementKind.METHOD && !ofFace && publicNames.contains(method.getSimpleName().toString())) {
                broken(1, method + " bears the name of a public one");
            }
            int deep = depth(method, new ArrayList<>());
            deepest = Math.max(deepest, deep);
            if (deep > 8) {
                broken(11, method + " goes " + deep + " deep");
            }
        }
        if (!face.equals(documentFace())) {
            broken(1, "the face is " + face + ", due is " + documentFace());
        }
    }

    static Set<String> documentFace() throws IOException {
        Set<String> face = new TreeSet<>();
        Matcher m = Pattern.compile("(?m)^    public ([^;{]*\\));$").matcher(Files.readString(DOCUMENT));
        while (m.find()) {
            face.add(m.group(1));
        }
        return face;
    }

    static void signs() throws IOException {
        String source = Files.readString(SOURCE);
        if (!source.chars().allMatch(c -> c == '\n' || c >= 32 && c < 127)) {
            broken(4, "signs beyond 127, or control signs");
        }
        if (source.contains("package ")) {
            broken(1, "a package line");
        }
    }

    public static void main(String[] args) throws IOException {
        JavaCompiler compiler = ToolProvider.getSystemJavaCompiler();
        try (StandardJavaFileManager files = compiler.getStandardFileManager(null, null, null)) {
            JavacTask task = (JavacTask) compiler.getTask(null, files, null, List.of("-proc:none"), null, files.getJavaFileObjects(SOURCE));
            CompilationUnitTree unit = task.parse().iterator().next();
            task.analyze();
            RulesTest test = new RulesTest(Trees.instance(task), unit);
            test.check();
            signs();
            System.out.println(test.face.size() + " members of the face, " + test.calls.size() + " methods and fields read, calls " + test.deepest + " deep, " + wrong + " rules broken");
        }
        if (wrong != 0) {
            System.exit(1);
        }
    }
}
