import com.sun.source.tree.AnnotationTree;
import com.sun.source.tree.BinaryTree;
import com.sun.source.tree.BlockTree;
import com.sun.source.tree.ClassTree;
import com.sun.source.tree.CompilationUnitTree;
import com.sun.source.tree.ForLoopTree;
import com.sun.source.tree.ImportTree;
import com.sun.source.tree.MethodInvocationTree;
import com.sun.source.tree.MethodTree;
import com.sun.source.tree.NewClassTree;
import com.sun.source.tree.Tree;
import com.sun.source.tree.Tree.Kind;
import com.sun.source.tree.TypeCastTree;
import com.sun.source.tree.VariableTree;
import com.sun.source.util.JavacTask;
import com.sun.source.util.TreePathScanner;
import com.sun.source.util.Trees;
import java.io.File;
import java.io.IOException;
import java.util.EnumSet;
import java.util.LinkedHashMap;
import java.util.LinkedHashSet;
import java.util.Map;
import java.util.Set;
import javax.lang.model.element.Element;
import javax.lang.model.element.ElementKind;
import javax.lang.model.element.ExecutableElement;
import javax.lang.model.element.Modifier;
import javax.lang.model.element.TypeElement;
import javax.lang.model.type.ArrayType;
import javax.lang.model.type.TypeKind;
import javax.lang.model.type.TypeMirror;
import javax.tools.JavaCompiler;
import javax.tools.StandardJavaFileManager;
import javax.tools.ToolProvider;

/** The rules of ../shared/LANGUAGE.md that the source itself can tell, read with the compiler's own trees. */
public final class LanguageTest {
    private static final File SOURCE = new File("src/main/java/TablePacker.java");
    private static final String OWN = "TablePacker";

    // Some of these the rules would leave, but the class does without them: each would need a look of its own.
    private static final Set<Kind> LEFT_OUT = EnumSet.of(Kind.LAMBDA_EXPRESSION, Kind.MEMBER_REFERENCE, Kind.THROW,
        Kind.TRY, Kind.CATCH, Kind.SYNCHRONIZED, Kind.ASSERT, Kind.RECORD, Kind.ENUM, Kind.INTERFACE,
        Kind.INSTANCE_OF, Kind.WHILE_LOOP, Kind.DO_WHILE_LOOP, Kind.ENHANCED_FOR_LOOP);

    private static final Set<String> LIBRARY = Set.of("java.util.Arrays.fill", "java.lang.System.arraycopy",
        "java.lang.Math.max", "java.lang.Math.min", "java.lang.Long.bitCount", "java.lang.Integer.bitCount");

    private final Map<Element, Set<Element>> calls = new LinkedHashMap<>();
    private final Trees trees;
    private final CompilationUnitTree unit;

    private LanguageTest(Trees trees, CompilationUnitTree unit) {
        this.trees = trees;
        this.unit = unit;
    }

    public static void main(String[] args) throws IOException {
        JavaCompiler compiler = ToolProvider.getSystemJavaCompiler();
        try (StandardJavaFileManager files = compiler.getStandardFileManager(null, null, null)) {
            JavacTask task = (JavacTask) compiler.getTask(null, files, null, null, null,
                files.getJavaFileObjects(SOURCE));
            CompilationUnitTree unit = task.parse().iterator().next();
            task.analyze();
            new LanguageTest(Trees.instance(task), unit).read();
        }
        Due.end();
    }

    private void read() {
        Due.about("the file");
        Due.due("it has no package line", unit.getPackageName() == null);
        Due.due("it has one class", unit.getTypeDecls().size(), 1);
        for (ImportTree line : unit.getImports()) {
            Due.due("an import of what the rules list: " + line, line.getQualifiedIdentifier().toString()
                .equals("java.util.Arrays"));
        }
        Reader reader = new Reader();
        reader.scan(unit, null);
        Due.about("rule 11");
        Due.due("at most some twelve classes: " + reader.classes, reader.classes <= 12);
        callsGoAtMostEightDeep();
    }

    private void callsGoAtMostEightDeep() {
        int deepest = 0;
        for (Element method : calls.keySet()) {
            deepest = Math.max(deepest, depth(method, new LinkedHashSet<>()));
        }
        Due.about("rules 8 and 11");
        Due.due("calls go at most eight deep: " + deepest, deepest <= 8);
        System.out.println("calls go " + deepest + " deep");
    }

    private int depth(Element method, Set<Element> open) {
        if (!open.add(method)) {
            Due.due(method + " of " + method.getEnclosingElement() + " does not come back to itself", false);
            return 0;
        }
        int deepest = 0;
        for (Element called : calls.getOrDefault(method, Set.of())) {
            deepest = Math.max(deepest, depth(called, open));
        }
        for (Element other : calls.keySet()) {
            if (method.getModifiers().contains(Modifier.ABSTRACT) && isSameCall(method, other)) {
                deepest = Math.max(deepest, depth(other, open) - 1);
            }
        }
        open.remove(method);
        return deepest + 1;
    }

    private static boolean isSameCall(Element method, Element other) {
        return method != other && method.toString().equals(other.toString());
    }

    /** Looks at every tree, and gathers who calls whom. */
    private final class Reader extends TreePathScanner<Void, Void> {
        private int classes;
        private Element inside;

        @Override
        public Void scan(Tree tree, Void nothing) {
            if (tree != null) {
                Due.about("rules 2, 6 and 9, line " + lineOf(tree));
                Due.due("no " + tree.getKind(), !LEFT_OUT.contains(tree.getKind()));
            }
            return super.scan(tree, nothing);
        }

        @Override
        public Void visitClass(ClassTree tree, Void nothing) {
            classes++;
            Element element = element(tree);
            Due.about("rule 2, " + tree.getSimpleName());
            boolean outermost = element.getEnclosingElement().getKind() == ElementKind.PACKAGE;
            Due.due("it is static, and no local class", outermost
                || element.getEnclosingElement().getKind() == ElementKind.CLASS
                && element.getModifiers().contains(Modifier.STATIC));
            int fields = 0;
            for (Tree member : tree.getMembers()) {
                Due.due("no initialiser block", !(member instanceof BlockTree));
                if (member instanceof VariableTree && !element(member).getModifiers().contains(Modifier.STATIC)) {
                    fields++;
                }
            }
            Due.about("rule 11, " + tree.getSimpleName());
            Due.due("some twenty fields: " + fields, fields <= 20);
            return super.visitClass(tree, nothing);
        }

        @Override
        public Void visitMethod(MethodTree tree, Void nothing) {
            Element before = inside;
            inside = element(tree);
            calls.computeIfAbsent(inside, method -> new LinkedHashSet<>());
            Due.about("rule 11, " + inside + " of " + inside.getEnclosingElement());
            Due.due("at most seven parameters", tree.getParameters().size() <= 7);
            long lines = lineAt(trees.getSourcePositions().getEndPosition(unit, tree)) - lineOf(tree) + 1;
            Due.due("some sixty lines: " + lines, lines <= 60);
            Due.about("rule 1, " + inside + " of " + inside.getEnclosingElement());
            Due.due("it does not bear the name of a public method", isPublic(inside) || !isNameOfThePublic(inside));
            super.visitMethod(tree, nothing);
            inside = before;
            return null;
        }

        @Override
        public Void visitVariable(VariableTree tree, Void nothing) {
            Element element = element(tree);
            Due.about("rule 3, line " + lineOf(tree));
            Due.due(element.asType() + " is a type that the rules list", isListed(element.asType()));
            if (element.getKind() == ElementKind.FIELD && element.getModifiers().contains(Modifier.STATIC)) {
                Due.about("rule 5, line " + lineOf(tree));
                Due.due(element + " is a final constant", element.getModifiers().contains(Modifier.FINAL)
                    && element.asType().getKind().isPrimitive());
            }
            return super.visitVariable(tree, nothing);
        }

        @Override
        public Void visitMethodInvocation(MethodInvocationTree tree, Void nothing) {
            Element called = element(tree.getMethodSelect());
            String name = called.getEnclosingElement() + "." + called.getSimpleName();
            Due.about("rule 4, line " + lineOf(tree));
            boolean superOfNothing = name.equals("java.lang.Object.<init>");
            Due.due(name + " is own, or of the library that the rules list",
                superOfNothing || isOwn(called.getEnclosingElement()) || LIBRARY.contains(name));
            if (inside != null && isOwn(called.getEnclosingElement())) {
                calls.get(inside).add(called);
            }
            return super.visitMethodInvocation(tree, nothing);
        }

        @Override
        public Void visitNewClass(NewClassTree tree, Void nothing) {
            Due.about("rule 2, line " + lineOf(tree));
            Due.due("no anonymous class", tree.getClassBody() == null);
            Due.due("an object of a class of its own", isOwn(element(tree).getEnclosingElement()));
            calls.get(inside).add(element(tree));
            return super.visitNewClass(tree, nothing);
        }

        @Override
        public Void visitTypeCast(TypeCastTree tree, Void nothing) {
            Due.about("rule 6, line " + lineOf(tree));
            Due.due("a cast of numbers alone", tree.getType().getKind() == Kind.PRIMITIVE_TYPE);
            return super.visitTypeCast(tree, nothing);
        }

        @Override
        public Void visitBinary(BinaryTree tree, Void nothing) {
            if (tree.getKind() == Kind.DIVIDE || tree.getKind() == Kind.REMAINDER) {
                Due.about("rule 7, line " + lineOf(tree));
                Element divisor = element(tree.getRightOperand());
                Due.due("a divisor that is a constant", divisor != null && divisor.getKind() == ElementKind.FIELD
                    && divisor.getModifiers().contains(Modifier.STATIC));
            }
            return super.visitBinary(tree, nothing);
        }

        @Override
        public Void visitForLoop(ForLoopTree tree, Void nothing) {
            Due.about("rule 9, line " + lineOf(tree));
            String condition = String.valueOf(tree.getCondition());
            Due.due("a counter goes up or down to a bound: " + condition, tree.getUpdate().size() == 1
                && (condition.contains("<") || condition.contains(">")));
            return super.visitForLoop(tree, nothing);
        }

        @Override
        public Void visitAnnotation(AnnotationTree tree, Void nothing) {
            Due.about("line " + lineOf(tree));
            Due.due("no annotation but Override", tree.getAnnotationType().toString().equals("Override"));
            return null;
        }

        private Element element(Tree tree) {
            return trees.getElement(trees.getPath(unit, tree));
        }
    }

    private long lineOf(Tree tree) {
        return lineAt(trees.getSourcePositions().getStartPosition(unit, tree));
    }

    private long lineAt(long position) {
        return position < 0 ? 0 : unit.getLineMap().getLineNumber(position);
    }

    private static boolean isPublic(Element element) {
        return element.getModifiers().contains(Modifier.PUBLIC);
    }

    private static boolean isNameOfThePublic(Element method) {
        Element outermost = method.getEnclosingElement();
        while (outermost.getEnclosingElement().getKind() != ElementKind.PACKAGE) {
            outermost = outermost.getEnclosingElement();
        }
        for (Element other : outermost.getEnclosedElements()) {
            if (other instanceof ExecutableElement && isPublic(other) && other.getKind() == ElementKind.METHOD
                && other.getSimpleName().equals(method.getSimpleName())) {
                return true;
            }
        }
        return false;
    }

    private static boolean isOwn(Element type) {
        String name = type instanceof TypeElement ? ((TypeElement) type).getQualifiedName().toString() : "";
        return name.equals(OWN) || name.startsWith(OWN + ".");
    }

    private static boolean isListed(TypeMirror type) {
        if (type.getKind() == TypeKind.ARRAY) {
            TypeMirror element = ((ArrayType) type).getComponentType();
            return element.getKind().isPrimitive();
        }
        return type.getKind().isPrimitive() || type.toString().equals(OWN) || type.toString().startsWith(OWN + ".");
    }
}
