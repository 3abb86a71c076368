import com.sun.source.tree.BinaryTree;
import com.sun.source.tree.BlockTree;
import com.sun.source.tree.ClassTree;
import com.sun.source.tree.CompilationUnitTree;
import com.sun.source.tree.CompoundAssignmentTree;
import com.sun.source.tree.ExpressionTree;
import com.sun.source.tree.LiteralTree;
import com.sun.source.tree.MethodInvocationTree;
import com.sun.source.tree.MethodTree;
import com.sun.source.tree.NewArrayTree;
import com.sun.source.tree.NewClassTree;
import com.sun.source.tree.ThrowTree;
import com.sun.source.tree.Tree;
import com.sun.source.tree.VariableTree;
import com.sun.source.util.JavacTask;
import com.sun.source.util.TreePath;
import com.sun.source.util.TreePathScanner;
import com.sun.source.util.Trees;
import java.nio.file.Files;
import java.nio.file.Path;
import java.util.EnumSet;
import java.util.LinkedHashMap;
import java.util.LinkedHashSet;
import java.util.List;
import java.util.Map;
import java.util.Set;
import javax.lang.model.element.Element;
import javax.lang.model.element.ElementKind;
import javax.lang.model.element.Modifier;
import javax.lang.model.type.TypeMirror;
import javax.tools.StandardJavaFileManager;
import javax.tools.ToolProvider;

/**
 * That the class keeps to those rules of LANGUAGE.md that its text can tell. It is narrower than the rules: what
 * the class does not use is refused, also where a rule allows it; who comes to use it teaches it this test first.
 */
public final class LanguageTest extends Checks {
    private static final Path CLASS = Path.of("src/main/java/TheatreWall.java");
    private static final int MOST_LINES = 60;
    private static final int MOST_PARAMETERS = 7;
    private static final int MOST_CLASSES = 12;
    private static final int MOST_FIELDS = 20;
    private static final int MOST_DEEP = 8;
    private static final Set<String> TYPES = Set.of("int", "long", "short", "byte", "char", "boolean", "double",
        "float", "void", "java.lang.String");
    private static final Set<String> CONSTANTS = Set.of("int", "long", "boolean", "char", "java.lang.String");
    private static final Set<String> THROWN = Set.of("java.lang.IllegalStateException",
        "java.lang.IllegalArgumentException", "java.lang.IndexOutOfBoundsException");
    private static final Set<String> LIBRARY = Set.of("max(int,int)", "min(int,int)", "abs(int)");
    private static final Map<Tree.Kind, Integer> REFUSED = Map.of(Tree.Kind.LAMBDA_EXPRESSION, 2,
        Tree.Kind.MEMBER_REFERENCE, 2, Tree.Kind.TRY, 6, Tree.Kind.CATCH, 6, Tree.Kind.ASSERT, 6,
        Tree.Kind.SYNCHRONIZED, 6, Tree.Kind.INSTANCE_OF, 7, Tree.Kind.WHILE_LOOP, 9, Tree.Kind.DO_WHILE_LOOP, 9,
        Tree.Kind.IMPORT, 4);
    private static final Set<Tree.Kind> ADDED = EnumSet.of(Tree.Kind.PLUS, Tree.Kind.PLUS_ASSIGNMENT);
    private static final Set<Tree.Kind> DIVIDED = EnumSet.of(Tree.Kind.DIVIDE, Tree.Kind.REMAINDER,
        Tree.Kind.DIVIDE_ASSIGNMENT, Tree.Kind.REMAINDER_ASSIGNMENT);
    private static final Set<Tree.Kind> COMPARED = EnumSet.of(Tree.Kind.EQUAL_TO, Tree.Kind.NOT_EQUAL_TO);

    private LanguageTest() {
    }

    public static void main(String[] args) throws Exception {
        Path file = args.length == 0 ? CLASS : Path.of(args[0]);
        String text = Files.readString(file);
        rule(4, "signs of the file are 1 to 127", text.chars().allMatch(sign -> sign >= 1 && sign <= 127));
        try (StandardJavaFileManager files = ToolProvider.getSystemJavaCompiler()
            .getStandardFileManager(null, null, null)) {
            JavacTask task = (JavacTask) ToolProvider.getSystemJavaCompiler().getTask(null, files, null,
                List.of("-proc:none"), null, files.getJavaFileObjects(file));
            CompilationUnitTree unit = task.parse().iterator().next();
            task.analyze();
            Reader reader = new Reader(Trees.instance(task), unit);
            reader.scan(unit, null);
            reader.lookAtChains();
        }
        end("LanguageTest");
    }

    private static void rule(int number, String what, boolean isKept) {
        same("LANGUAGE.md, rule " + number + ": " + what, true, isKept);
    }

    /** Goes through the file once, and notes which method calls which. */
    private static final class Reader extends TreePathScanner<Void, Void> {
        private final Trees trees;
        private final CompilationUnitTree unit;
        private final Map<Element, Set<Element>> callees = new LinkedHashMap<>();
        private final Map<Element, Integer> chains = new LinkedHashMap<>();
        private final Set<Element> open = new LinkedHashSet<>();
        private Element caller = null;
        private int classes = 0;

        Reader(Trees trees, CompilationUnitTree unit) {
            this.trees = trees;
            this.unit = unit;
        }

        private long line(Tree tree, boolean isLast) {
            var places = trees.getSourcePositions();
            long place = isLast ? places.getEndPosition(unit, tree) : places.getStartPosition(unit, tree);
            return place < 0 ? 0 : unit.getLineMap().getLineNumber(place);
        }

        private void keeps(int number, Tree tree, String what, boolean isKept) {
            rule(number, "line " + line(tree, false) + ", " + what, isKept);
        }

        private TypeMirror typeOf(Tree tree) {
            return trees.getTypeMirror(new TreePath(getCurrentPath(), tree));
        }

        private boolean isOwn(Element element) {
            Element outermost = element;
            while (outermost.getEnclosingElement().getKind() != ElementKind.PACKAGE) {
                outermost = outermost.getEnclosingElement();
            }
            return outermost.getSimpleName().contentEquals("TheatreWall");
        }

        private boolean isOwnType(String type) {
            return type.equals("TheatreWall") || type.startsWith("TheatreWall.");
        }

        @Override
        public Void scan(Tree tree, Void none) {
            if (tree != null) {
                Integer number = REFUSED.get(tree.getKind());
                keeps(number == null ? 0 : number, tree, "no " + tree.getKind(), number == null);
            }
            return super.scan(tree, none);
        }

        @Override
        public Void visitCompilationUnit(CompilationUnitTree tree, Void none) {
            keeps(1, tree, "no package line, one public class",
                tree.getPackage() == null && tree.getTypeDecls().size() == 1);
            super.visitCompilationUnit(tree, none);
            keeps(11, tree, classes + " classes", classes <= MOST_CLASSES);
            return null;
        }

        @Override
        public Void visitClass(ClassTree tree, Void none) {
            classes++;
            Set<Modifier> flags = tree.getModifiers().getFlags();
            boolean isFace = getCurrentPath().getParentPath().getLeaf().getKind() == Tree.Kind.COMPILATION_UNIT;
            keeps(2, tree, "a class, not " + tree.getKind(), tree.getKind() == Tree.Kind.CLASS);
            keeps(1, tree, "public and final, or static and hidden", isFace
                ? flags.equals(Set.of(Modifier.PUBLIC, Modifier.FINAL))
                : flags.contains(Modifier.STATIC) && !flags.contains(Modifier.PUBLIC)
                    && !flags.contains(Modifier.PROTECTED));
            long fields = tree.getMembers().stream().filter(member -> member instanceof VariableTree
                && !((VariableTree) member).getModifiers().getFlags().contains(Modifier.STATIC)).count();
            keeps(11, tree, fields + " fields", fields <= MOST_FIELDS);
            keeps(5, tree, "no initialiser block", tree.getMembers().stream()
                .noneMatch(member -> member instanceof BlockTree));
            return super.visitClass(tree, none);
        }

        @Override
        public Void visitVariable(VariableTree tree, Void none) {
            String type = trees.getTypeMirror(getCurrentPath()).toString();
            String element = type.endsWith("[]") ? type.substring(0, type.length() - 2) : type;
            keeps(3, tree, "type " + type, TYPES.contains(element) || isOwnType(element));
            if (tree.getModifiers().getFlags().contains(Modifier.STATIC)) {
                boolean isFinal = tree.getModifiers().getFlags().contains(Modifier.FINAL);
                keeps(5, tree, "static " + tree.getName() + " is a constant",
                    isFinal && CONSTANTS.contains(type) && tree.getInitializer() != null);
            }
            return super.visitVariable(tree, none);
        }

        @Override
        public Void visitMethod(MethodTree tree, Void none) {
            caller = trees.getElement(getCurrentPath());
            callees.put(caller, new LinkedHashSet<>());
            String name = tree.getName().toString();
            long lines = line(tree, true) - line(tree, false) + 1;
            keeps(11, tree, name + " has " + lines + " lines", lines <= MOST_LINES);
            keeps(11, tree, name + " takes " + tree.getParameters().size(),
                tree.getParameters().size() <= MOST_PARAMETERS);
            keeps(6, tree, name + " is no method of every object",
                !Set.of("equals", "hashCode", "toString", "finalize").contains(name));
            super.visitMethod(tree, none);
            caller = null;
            return null;
        }

        @Override
        public Void visitMethodInvocation(MethodInvocationTree tree, Void none) {
            Element callee = trees.getElement(new TreePath(getCurrentPath(), tree.getMethodSelect()));
            if (isOwn(callee)) {
                callees.get(caller).add(callee);
            } else {
                String holder = callee.getEnclosingElement().toString();
                boolean isSuper = callee.getKind() == ElementKind.CONSTRUCTOR && holder.equals("java.lang.Object");
                keeps(4, tree, "no call of " + holder + "." + callee,
                    isSuper || (holder.equals("java.lang.Math") && LIBRARY.contains(callee.toString())));
            }
            return super.visitMethodInvocation(tree, none);
        }

        @Override
        public Void visitNewClass(NewClassTree tree, Void none) {
            Element constructor = trees.getElement(getCurrentPath());
            String type = trees.getTypeMirror(getCurrentPath()).toString();
            boolean isThrown = getCurrentPath().getParentPath().getLeaf().getKind() == Tree.Kind.THROW;
            keeps(4, tree, "no new " + type, tree.getClassBody() == null
                && (isThrown ? THROWN.contains(type) : isOwnType(type)));
            keeps(12, tree, "made once for the wall, or thrown", isThrown || isInConstructor());
            if (caller != null && isOwn(constructor)) {
                callees.get(caller).add(constructor);
            }
            return super.visitNewClass(tree, none);
        }

        @Override
        public Void visitNewArray(NewArrayTree tree, Void none) {
            keeps(12, tree, "made once for the wall", isInConstructor());
            return super.visitNewArray(tree, none);
        }

        private boolean isInConstructor() {
            return caller == null || caller.getKind() == ElementKind.CONSTRUCTOR;
        }

        @Override
        public Void visitThrow(ThrowTree tree, Void none) {
            keeps(6, tree, "throw new", tree.getExpression().getKind() == Tree.Kind.NEW_CLASS);
            keeps(6, tree, "no throw in a constructor",
                caller != null && caller.getKind() == ElementKind.METHOD);
            return super.visitThrow(tree, none);
        }

        @Override
        public Void visitBinary(BinaryTree tree, Void none) {
            lookAtOperator(tree, tree.getLeftOperand(), tree.getRightOperand());
            return super.visitBinary(tree, none);
        }

        @Override
        public Void visitCompoundAssignment(CompoundAssignmentTree tree, Void none) {
            lookAtOperator(tree, tree.getVariable(), tree.getExpression());
            return super.visitCompoundAssignment(tree, none);
        }

        private void lookAtOperator(Tree tree, ExpressionTree left, ExpressionTree right) {
            boolean isText = isText(left) || isText(right);
            boolean isDouble = typeOf(left).toString().equals("double") || typeOf(right).toString().equals("double");
            if (ADDED.contains(tree.getKind())) {
                keeps(10, tree, "texts are not joined by +", !isText);
            }
            if (COMPARED.contains(tree.getKind())) {
                keeps(6, tree, "texts are not compared by " + tree.getKind(), !isText);
            }
            if (DIVIDED.contains(tree.getKind())) {
                keeps(7, tree, "a whole number is divided by a written one", isDouble || isWrittenDivisor(right));
            }
        }

        private boolean isText(ExpressionTree operand) {
            return typeOf(operand).toString().equals("java.lang.String");
        }

        private boolean isWrittenDivisor(ExpressionTree operand) {
            return operand instanceof LiteralTree && ((LiteralTree) operand).getValue() instanceof Number
                && ((Number) ((LiteralTree) operand).getValue()).longValue() != 0;
        }

        /** The longest chain of methods each of which calls the next one. */
        void lookAtChains() {
            for (Element method : callees.keySet()) {
                int chain = chainOf(method);
                rule(11, method + " calls " + chain + " deep", chain <= MOST_DEEP);
            }
        }

        private int chainOf(Element method) {
            if (chains.containsKey(method)) {
                return chains.get(method);
            }
            boolean isNew = open.add(method);
            rule(8, method + " does not come back to itself", isNew);
            int longest = 0;
            if (isNew) {
                for (Element callee : callees.getOrDefault(method, Set.of())) {
                    longest = Math.max(longest, chainOf(callee));
                }
                open.remove(method);
            }
            chains.put(method, longest + 1);
            return longest + 1;
        }
    }
}
