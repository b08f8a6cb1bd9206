import com.sun.source.tree.*;
import com.sun.source.util.JavacTask;
import com.sun.source.util.SourcePositions;
import com.sun.source.util.TreePath;
import com.sun.source.util.TreePathScanner;
import com.sun.source.util.Trees;
import java.nio.file.Path;
import java.util.ArrayDeque;
import java.util.Arrays;
import java.util.Deque;
import java.util.List;
import java.util.Map;
import java.util.Set;
import java.util.TreeMap;
import java.util.TreeSet;
import javax.lang.model.element.Element;
import javax.lang.model.element.ElementKind;
import javax.lang.model.element.Modifier;
import javax.lang.model.type.ArrayType;
import javax.lang.model.type.TypeKind;
import javax.lang.model.type.TypeMirror;
import javax.tools.JavaCompiler;
import javax.tools.StandardJavaFileManager;
import javax.tools.ToolProvider;

/**
 * The class keeps to those rules of ../shared/LANGUAGE.md that a reader of its syntax tree can
 * judge. What the class does not use at all (catches, casts, lists, classes above a class) is
 * refused whole, as that is simpler than telling the allowed part of it.
 */
public final class LanguageTest {
    private static final String SOURCE = "src/main/java/GatheringCache.java";
    private static final int MOST_LINES = 60;
    private static final int MOST_PARAMETERS = 7;
    private static final int MOST_DEPTH = 8;
    private static final int MOST_CLASSES = 12;
    private static final int MOST_FIELDS = 20;

    private static final Set<String> LIBRARY = Set.of(
            "String.length", "String.charAt", "String.isEmpty", "String.equals", "String.indexOf",
            "String.substring", "String.toCharArray", "StringBuilder.append", "StringBuilder.charAt",
            "StringBuilder.setCharAt", "StringBuilder.setLength", "StringBuilder.deleteCharAt",
            "StringBuilder.reverse", "StringBuilder.length", "StringBuilder.toString",
            "Math.max", "Math.min", "Math.abs", "Math.floorDiv", "Math.floorMod",
            "System.arraycopy", "Arrays.copyOf", "Arrays.copyOfRange", "Arrays.fill");
    private static final Set<String> OVER_NUMBERS = Set.of(
            "System.arraycopy", "Arrays.copyOf", "Arrays.copyOfRange", "Arrays.fill");
    private static final Set<String> EXCEPTIONS = Set.of(
            "IllegalStateException", "IllegalArgumentException", "IndexOutOfBoundsException");
    private static final Set<Tree.Kind> REFUSED = Set.of(
            Tree.Kind.LAMBDA_EXPRESSION, Tree.Kind.MEMBER_REFERENCE, Tree.Kind.SYNCHRONIZED, Tree.Kind.ASSERT,
            Tree.Kind.TRY, Tree.Kind.INSTANCE_OF, Tree.Kind.IMPORT, Tree.Kind.PACKAGE, Tree.Kind.ENHANCED_FOR_LOOP,
            Tree.Kind.SWITCH_EXPRESSION, Tree.Kind.PARAMETERIZED_TYPE);

    private static final Set<String> wrong = new TreeSet<>();
    private static final Map<String, Set<String>> calls = new TreeMap<>();
    private static int classes = 0;

    public static void main(String[] args) throws Exception {
        JavaCompiler compiler = ToolProvider.getSystemJavaCompiler();
        StandardJavaFileManager files = compiler.getStandardFileManager(null, null, null);
        JavacTask task = (JavacTask) compiler.getTask(null, files, null, List.of("--release", "17", "-proc:none"),
                null, files.getJavaFileObjects(Path.of(SOURCE)));
        for (CompilationUnitTree unit : task.parse()) {
            task.analyze();
            if (unit.getTypeDecls().size() != 1) {
                wrong.add("1: the file has more than one class");
            }
            new Rules(Trees.instance(task)).scan(unit, null);
        }
        if (classes == 0 || calls.isEmpty()) {
            wrong.add("no class was read");
        }
        if (classes > MOST_CLASSES) {
            wrong.add("11: there are " + classes + " classes");
        }
        for (String method : calls.keySet()) {
            lookDeeper(method, new ArrayDeque<>());
        }
        wrong.forEach(System.out::println);
        System.out.println(wrong.isEmpty() ? "the class keeps to the language" : "rules are broken");
        System.exit(wrong.isEmpty() ? 0 : 1);
    }

    private static void lookDeeper(String method, Deque<String> open) {
        if (open.contains(method)) {
            wrong.add("8: recursion, " + open + " to " + method);
            return;
        }
        open.addLast(method);
        if (open.size() > MOST_DEPTH) {
            wrong.add("11: calls go deeper than " + MOST_DEPTH + ": " + open);
        } else {
            for (String called : calls.getOrDefault(method, Set.of())) {
                lookDeeper(called, open);
            }
        }
        open.removeLast();
    }

    private static final class Rules extends TreePathScanner<Void, Void> {
        private final Trees trees;
        private String method = "";

        Rules(Trees trees) {
            this.trees = trees;
        }

        private long line(long position) {
            return getCurrentPath().getCompilationUnit().getLineMap().getLineNumber(position);
        }

        private void wrong(String what, Tree tree) {
            SourcePositions positions = trees.getSourcePositions();
            long at = positions.getStartPosition(getCurrentPath().getCompilationUnit(), tree);
            wrong.add(what + " (line " + line(at) + ")");
        }

        private TypeMirror typeOf(Tree tree) {
            return trees.getTypeMirror(new TreePath(getCurrentPath(), tree));
        }

        @Override
        public Void scan(Tree tree, Void none) {
            if (tree != null && REFUSED.contains(tree.getKind())) {
                wrong("the class does without " + tree.getKind(), tree);
            }
            return super.scan(tree, none);
        }

        @Override
        public Void visitClass(ClassTree tree, Void none) {
            classes++;
            boolean inside = trees.getElement(getCurrentPath()).getEnclosingElement().getKind() == ElementKind.CLASS;
            Set<Modifier> modifiers = tree.getModifiers().getFlags();
            if (inside && (!modifiers.contains(Modifier.STATIC) || modifiers.contains(Modifier.PUBLIC)
                    || modifiers.contains(Modifier.PROTECTED))) {
                wrong("1: a class inside is private or package-visible, and static", tree);
            }
            if (tree.getKind() != Tree.Kind.CLASS || tree.getExtendsClause() != null
                    || !tree.getImplementsClause().isEmpty()) {
                wrong("2: the class does without other kinds of classes and classes above them", tree);
            }
            int fields = 0;
            for (Tree member : tree.getMembers()) {
                if (member instanceof BlockTree) {
                    wrong("5: no initialiser block", member);
                } else if (member instanceof VariableTree field) {
                    fields += isConstant(field) ? 0 : 1;
                }
            }
            if (fields > MOST_FIELDS) {
                wrong("11: a class has " + fields + " fields", tree);
            }
            return super.visitClass(tree, none);
        }

        private boolean isConstant(VariableTree field) {
            Set<Modifier> modifiers = field.getModifiers().getFlags();
            if (!modifiers.contains(Modifier.STATIC)) {
                return false;
            }
            boolean plain = Set.of("int", "long", "boolean", "char", "String").contains(field.getType().toString());
            if (!modifiers.contains(Modifier.FINAL) || !plain) {
                wrong("5: a static field is a constant", field);
            }
            return true;
        }

        @Override
        public Void visitVariable(VariableTree tree, Void none) {
            TypeMirror type = trees.getTypeMirror(getCurrentPath());
            if (type instanceof ArrayType array && array.getComponentType().getKind() == TypeKind.ARRAY) {
                wrong("3: the class does without arrays of arrays", tree);
            }
            return super.visitVariable(tree, none);
        }

        @Override
        public Void visitMethod(MethodTree tree, Void none) {
            Element element = trees.getElement(getCurrentPath());
            method = element.getEnclosingElement().getSimpleName() + "." + tree.getName();
            if (calls.put(method, new TreeSet<>()) != null) {
                wrong("two methods have the name " + method + ", so that calls can't be told apart here", tree);
            }
            CompilationUnitTree unit = getCurrentPath().getCompilationUnit();
            SourcePositions positions = trees.getSourcePositions();
            long start = positions.getStartPosition(unit, tree);
            long end = positions.getEndPosition(unit, tree);
            if (end > start && line(end) - line(start) >= MOST_LINES) {
                wrong("11: a method is too long", tree);
            }
            if (tree.getParameters().size() > MOST_PARAMETERS) {
                wrong("11: a method takes too many parameters", tree);
            }
            if (Set.of("equals", "hashCode", "toString").contains(tree.getName().toString())) {
                wrong("6: no equals, hashCode or toString of its own", tree);
            }
            super.visitMethod(tree, none);
            method = "";
            return null;
        }

        @Override
        public Void visitMethodInvocation(MethodInvocationTree tree, Void none) {
            Element called = trees.getElement(getCurrentPath());
            String name = called.getEnclosingElement().getSimpleName() + "." + called.getSimpleName();
            if (called.getEnclosingElement().toString().startsWith("java.")) {
                lookAtLibrary(tree, name);
            } else {
                calls.getOrDefault(method, new TreeSet<>()).add(name);
            }
            return super.visitMethodInvocation(tree, none);
        }

        private void lookAtLibrary(MethodInvocationTree tree, String name) {
            boolean implied = name.equals("Object.<init>");
            if (!implied && !LIBRARY.contains(name)) {
                wrong("4: the library's " + name, tree);
            }
            for (ExpressionTree argument : tree.getArguments()) {
                TypeMirror type = typeOf(argument);
                if (name.startsWith("Math.") && type.getKind() != TypeKind.INT && type.getKind() != TypeKind.LONG) {
                    wrong("3: Math over " + type, tree);
                }
                if (OVER_NUMBERS.contains(name) && type instanceof ArrayType array && !isNumber(array.getComponentType())) {
                    wrong("4: " + name + " over " + type, tree);
                }
            }
        }

        private static boolean isNumber(TypeMirror type) {
            return type.getKind().isPrimitive() && type.getKind() != TypeKind.BOOLEAN;
        }

        @Override
        public Void visitNewClass(NewClassTree tree, Void none) {
            Element made = trees.getElement(getCurrentPath()).getEnclosingElement();
            if (made.toString().startsWith("java.")) {
                if (!EXCEPTIONS.contains(made.getSimpleName().toString())) {
                    wrong("4: a new " + made, tree);
                }
            } else {
                calls.getOrDefault(method, new TreeSet<>()).add(made.getSimpleName() + ".<init>");
            }
            return super.visitNewClass(tree, none);
        }

        @Override
        public Void visitThrow(ThrowTree tree, Void none) {
            boolean plain = tree.getExpression() instanceof NewClassTree made
                    && made.getArguments().stream().allMatch(a -> a.getKind() == Tree.Kind.STRING_LITERAL);
            if (!plain || method.endsWith(".<init>")) {
                wrong("6: throw new E(\"a written text\"), and none in a constructor", tree);
            }
            return super.visitThrow(tree, none);
        }

        @Override
        public Void visitTypeCast(TypeCastTree tree, Void none) {
            if (!typeOf(tree.getType()).getKind().isPrimitive()) {
                wrong("7: the class does without casts of objects", tree);
            }
            return super.visitTypeCast(tree, none);
        }

        @Override
        public Void visitBinary(BinaryTree tree, Void none) {
            boolean text = Arrays.asList(tree.getLeftOperand(), tree.getRightOperand()).stream()
                    .anyMatch(side -> typeOf(side).toString().equals("java.lang.String"));
            if (text) {
                wrong("10: a text in an operation", tree);
            }
            return super.visitBinary(tree, none);
        }

        @Override
        public Void visitLiteral(LiteralTree tree, Void none) {
            if (tree.getValue() instanceof String text && text.chars().anyMatch(sign -> sign < 1 || sign > 127)) {
                wrong("4: a sign in a text", tree);
            }
            return super.visitLiteral(tree, none);
        }
    }
}
