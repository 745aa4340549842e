import com.sun.source.tree.ArrayAccessTree;
import com.sun.source.tree.AssertTree;
import com.sun.source.tree.AssignmentTree;
import com.sun.source.tree.BinaryTree;
import com.sun.source.tree.BlockTree;
import com.sun.source.tree.ClassTree;
import com.sun.source.tree.CompilationUnitTree;
import com.sun.source.tree.CompoundAssignmentTree;
import com.sun.source.tree.DoWhileLoopTree;
import com.sun.source.tree.ExpressionTree;
import com.sun.source.tree.ForLoopTree;
import com.sun.source.tree.InstanceOfTree;
import com.sun.source.tree.LambdaExpressionTree;
import com.sun.source.tree.LiteralTree;
import com.sun.source.tree.MemberReferenceTree;
import com.sun.source.tree.MethodInvocationTree;
import com.sun.source.tree.MethodTree;
import com.sun.source.tree.NewArrayTree;
import com.sun.source.tree.NewClassTree;
import com.sun.source.tree.SynchronizedTree;
import com.sun.source.tree.ThrowTree;
import com.sun.source.tree.Tree;
import com.sun.source.tree.TryTree;
import com.sun.source.tree.TypeCastTree;
import com.sun.source.tree.UnaryTree;
import com.sun.source.tree.VariableTree;
import com.sun.source.tree.WhileLoopTree;
import com.sun.source.util.JavacTask;
import com.sun.source.util.TreePath;
import com.sun.source.util.TreePathScanner;
import com.sun.source.util.Trees;
import java.io.IOException;
import java.nio.file.Path;
import java.util.ArrayList;
import java.util.Arrays;
import java.util.HashMap;
import java.util.HashSet;
import java.util.LinkedHashMap;
import java.util.LinkedHashSet;
import java.util.List;
import java.util.Map;
import java.util.Set;
import javax.lang.model.element.Element;
import javax.lang.model.element.ElementKind;
import javax.lang.model.element.ExecutableElement;
import javax.lang.model.element.Modifier;
import javax.lang.model.element.TypeElement;
import javax.lang.model.type.ArrayType;
import javax.lang.model.type.DeclaredType;
import javax.lang.model.type.TypeKind;
import javax.lang.model.type.TypeMirror;
import javax.tools.JavaCompiler;
import javax.tools.StandardJavaFileManager;
import javax.tools.ToolProvider;

/**
 * LANGUAGE.md again, asked of the compiler's own tree of the source (the first argument), where
 * every name is known for what it is. Each line that is printed begins with the rule's number.
 */
public final class LanguageTree {
    private static final int MOST_PARAMETERS = 7;
    private static final int MOST_LINES = 60;
    private static final int MOST_CLASSES = 12;
    private static final int MOST_FIELDS = 20;
    private static final int MOST_CALLS_DEEP = 8;
    private static final Set<String> LIBRARY = new HashSet<>(Arrays.asList(
            "java.lang.String.length", "java.lang.String.charAt", "java.lang.String.isEmpty", "java.lang.String.equals",
            "java.lang.String.indexOf", "java.lang.String.substring", "java.lang.String.toCharArray",
            "java.lang.Integer.bitCount", "java.lang.Long.bitCount", "java.lang.Math.max", "java.lang.Math.min",
            "java.lang.System.arraycopy", "java.lang.Object.<init>"));

    private static int wrong = 0;

    private LanguageTree() {
    }

    public static void main(String[] args) throws IOException {
        JavaCompiler compiler = ToolProvider.getSystemJavaCompiler();
        try (StandardJavaFileManager files = compiler.getStandardFileManager(null, null, null)) {
            JavacTask task = (JavacTask) compiler.getTask(null, files, null, Arrays.asList("-proc:none"), null,
                    files.getJavaFileObjects(Path.of(args[0])));
            Iterable<? extends CompilationUnitTree> units = task.parse();
            task.analyze();
            for (CompilationUnitTree unit : units) {
                Rules rules = new Rules(unit, Trees.instance(task));
                must(unit.getImports().isEmpty() && unit.getPackage() == null, 4, "imports or a package");
                must(unit.getTypeDecls().size() == 1, 1, "classes beside the public one");
                rules.scan(unit, null);
                rules.ended();
            }
        }
        System.out.println("LanguageTree: " + wrong + " rules are broken");
        if (wrong != 0) {
            System.exit(1);
        }
    }

    private static void must(boolean is, int rule, String what) {
        if (!is) {
            wrong++;
            System.out.println("LanguageTree: rule " + rule + ": " + what);
        }
    }

    private static final class Rules extends TreePathScanner<Void, Void> {
        private final CompilationUnitTree unit;
        private final Trees trees;
        private final Map<ExecutableElement, Set<Element>> calls = new LinkedHashMap<>();
        private final Map<Element, Integer> depths = new HashMap<>();
        private final Set<String> publicNames = new HashSet<>();
        private final List<ExecutableElement> privates = new ArrayList<>();
        private ExecutableElement method;
        private int classes;

        Rules(CompilationUnitTree unit, Trees trees) {
            this.unit = unit;
            this.trees = trees;
        }

        private String at(Tree tree) {
            long place = trees.getSourcePositions().getStartPosition(unit, tree);
            String text = tree.toString().replaceAll("\\s+", " ");
            return "line " + unit.getLineMap().getLineNumber(place) + ": " + text.substring(0, Math.min(70, text.length()));
        }

        private TypeMirror typeOf(Tree tree) {
            return trees.getTypeMirror(new TreePath(getCurrentPath(), tree));
        }

        private Element here() {
            return trees.getElement(getCurrentPath());
        }

        private static boolean isOwn(Element element) {
            Element outermost = element;
            while (outermost.getEnclosingElement() != null && outermost.getEnclosingElement().getKind() != ElementKind.PACKAGE) {
                outermost = outermost.getEnclosingElement();
            }
            return outermost.getSimpleName().contentEquals("PactYears");
        }

        private static boolean isText(TypeMirror type) {
            return type != null && type.toString().equals("java.lang.String");
        }

        /** Rule 3; nothing is a type, too. */
        private static boolean isAllowed(TypeMirror type) {
            if (type.getKind() == TypeKind.ARRAY) {
                TypeMirror inside = ((ArrayType) type).getComponentType();
                boolean isTable = inside.getKind() == TypeKind.ARRAY && ((ArrayType) inside).getComponentType().getKind().isPrimitive();
                return isTable || inside.getKind() != TypeKind.ARRAY && isAllowed(inside) && !isText(inside);
            }
            if (type.getKind() == TypeKind.DECLARED) {
                return isText(type) || isOwn(((DeclaredType) type).asElement());
            }
            return type.getKind().isPrimitive() || type.getKind() == TypeKind.VOID;
        }

        @Override
        public Void visitClass(ClassTree tree, Void nothing) {
            classes++;
            Element element = here();
            boolean isOutermost = element.getEnclosingElement().getKind() == ElementKind.PACKAGE;
            Set<Modifier> modifiers = element.getModifiers();
            must(isOutermost || modifiers.contains(Modifier.STATIC), 2, "not static: " + element);
            must(isOutermost || element.getEnclosingElement() instanceof TypeElement, 2, "local or anonymous: " + element);
            must(isOutermost || !modifiers.contains(Modifier.PUBLIC) && !modifiers.contains(Modifier.PROTECTED), 1, "seen: " + element);
            int fields = 0;
            for (Tree member : tree.getMembers()) {
                boolean isField = member instanceof VariableTree;
                fields += isField && !((VariableTree) member).getModifiers().getFlags().contains(Modifier.STATIC) ? 1 : 0;
                must(!(member instanceof BlockTree), 5, "an initialiser block " + at(member));
            }
            must(fields <= MOST_FIELDS, 11, element + " has " + fields + " fields");
            ExecutableElement outside = method;
            method = null;
            super.visitClass(tree, nothing);
            method = outside;
            return null;
        }

        @Override
        public Void visitMethod(MethodTree tree, Void nothing) {
            ExecutableElement element = (ExecutableElement) here();
            boolean isOutermost = element.getEnclosingElement().getEnclosingElement().getKind() == ElementKind.PACKAGE;
            String name = element.getSimpleName().toString();
            if (isOutermost && element.getModifiers().contains(Modifier.PUBLIC)) {
                publicNames.add(name);
            } else {
                must(!isOutermost || element.getModifiers().contains(Modifier.PRIVATE), 1, "seen: " + name);
                if (element.getKind() == ElementKind.METHOD) {
                    privates.add(element);
                }
            }
            must(!Arrays.asList("equals", "hashCode", "toString").contains(name), 6, name);
            must(tree.getThrows().isEmpty(), 6, name + " throws");
            must(tree.getParameters().size() <= MOST_PARAMETERS, 11, "parameters of " + name);
            must(isAllowed(element.getReturnType()), 3, "what " + name + " answers");
            long first = trees.getSourcePositions().getStartPosition(unit, tree);
            long last = trees.getSourcePositions().getEndPosition(unit, tree);
            long lines = last < 0 ? 0 : unit.getLineMap().getLineNumber(last) - unit.getLineMap().getLineNumber(first) + 1;
            must(lines <= MOST_LINES, 11, name + " has " + lines + " lines");
            calls.put(element, new LinkedHashSet<>());
            method = element;
            super.visitMethod(tree, nothing);
            method = null;
            return null;
        }

        @Override
        public Void visitVariable(VariableTree tree, Void nothing) {
            Element element = here();
            must(isAllowed(element.asType()), 3, "the type of " + at(tree));
            if (element.getModifiers().contains(Modifier.STATIC)) {
                must(element.getModifiers().contains(Modifier.FINAL), 5, "static and not final: " + at(tree));
                String type = element.asType().toString();
                boolean isRow = type.endsWith("[]");
                must(Arrays.asList("int", "long", "boolean", "char", "java.lang.String", "int[]", "long[]", "char[]", "byte[]")
                        .contains(type), 5, "the type of " + at(tree));
                boolean isWritten = tree.getInitializer() instanceof NewArrayTree
                        && ((NewArrayTree) tree.getInitializer()).getInitializers() != null;
                must(!isRow || isWritten, 5, "not written out: " + at(tree));
            }
            return super.visitVariable(tree, nothing);
        }

        private void called(Element element, Tree tree) {
            String name = ((TypeElement) element.getEnclosingElement()).getQualifiedName() + "." + element.getSimpleName();
            must(isOwn(element) || LIBRARY.contains(name), 4, name + " " + at(tree));
            if (method != null) {
                calls.get(method).add(element);
            }
        }

        @Override
        public Void visitMethodInvocation(MethodInvocationTree tree, Void nothing) {
            called(here(), tree);
            return super.visitMethodInvocation(tree, nothing);
        }

        @Override
        public Void visitNewClass(NewClassTree tree, Void nothing) {
            must(tree.getClassBody() == null, 2, "anonymous " + at(tree));
            must(method == null || method.getKind() == ElementKind.CONSTRUCTOR, 12, "made by a call: " + at(tree));
            called(here(), tree);
            return super.visitNewClass(tree, nothing);
        }

        @Override
        public Void visitNewArray(NewArrayTree tree, Void nothing) {
            must(method == null || method.getKind() == ElementKind.CONSTRUCTOR, 12, "made by a call: " + at(tree));
            return super.visitNewArray(tree, nothing);
        }

        @Override
        public Void visitLiteral(LiteralTree tree, Void nothing) {
            if (tree.getValue() instanceof String) {
                must(((String) tree.getValue()).chars().allMatch(sign -> sign >= 1 && sign <= 127), 4, at(tree));
            }
            return super.visitLiteral(tree, nothing);
        }

        @Override
        public Void visitBinary(BinaryTree tree, Void nothing) {
            TypeMirror left = typeOf(tree.getLeftOperand());
            TypeMirror right = typeOf(tree.getRightOperand());
            must(!isText(left) && !isText(right), 10, "texts by a sign: " + at(tree));
            boolean isDivision = tree.getKind() == Tree.Kind.DIVIDE || tree.getKind() == Tree.Kind.REMAINDER;
            must(!isDivision || isTested(tree.getRightOperand()), 7, "divided by what isn't tested: " + at(tree));
            return super.visitBinary(tree, nothing);
        }

        /** A constant, or one of the names that are tested right ahead: commonDivisor, likely, reckon. */
        private boolean isTested(ExpressionTree divisor) {
            Element element = trees.getElement(new TreePath(getCurrentPath(), divisor));
            boolean isConstant = divisor instanceof LiteralTree || element != null && element.getModifiers().contains(Modifier.STATIC);
            String name = method == null ? "" : method.getSimpleName() + " " + divisor;
            return isConstant || Arrays.asList("commonDivisor less", "likely divisor", "reckon right").contains(name);
        }

        @Override
        public Void visitCompoundAssignment(CompoundAssignmentTree tree, Void nothing) {
            must(!isText(typeOf(tree.getVariable())), 10, "texts by a sign: " + at(tree));
            boolean isDivision = tree.getKind() == Tree.Kind.DIVIDE_ASSIGNMENT || tree.getKind() == Tree.Kind.REMAINDER_ASSIGNMENT;
            must(!isDivision, 7, "divided by what isn't tested: " + at(tree));
            changed(tree.getVariable());
            return super.visitCompoundAssignment(tree, nothing);
        }

        @Override
        public Void visitAssignment(AssignmentTree tree, Void nothing) {
            changed(tree.getVariable());
            return super.visitAssignment(tree, nothing);
        }

        @Override
        public Void visitUnary(UnaryTree tree, Void nothing) {
            if (tree.getKind().toString().endsWith("CREMENT")) {
                changed(tree.getExpression());
            }
            return super.visitUnary(tree, nothing);
        }

        private void changed(ExpressionTree variable) {
            if (variable instanceof ArrayAccessTree) {
                Element row = trees.getElement(new TreePath(getCurrentPath(), ((ArrayAccessTree) variable).getExpression()));
                must(row == null || !row.getModifiers().contains(Modifier.STATIC), 5, "a constant row is changed: " + at(variable));
            }
        }

        @Override
        public Void visitForLoop(ForLoopTree tree, Void nothing) {
            must(tree.getCondition() != null, 9, "a loop without a bound: " + at(tree));
            return super.visitForLoop(tree, nothing);
        }

        @Override
        public Void visitWhileLoop(WhileLoopTree tree, Void nothing) {
            must(false, 9, at(tree));
            return super.visitWhileLoop(tree, nothing);
        }

        @Override
        public Void visitDoWhileLoop(DoWhileLoopTree tree, Void nothing) {
            must(false, 9, at(tree));
            return super.visitDoWhileLoop(tree, nothing);
        }

        @Override
        public Void visitLambdaExpression(LambdaExpressionTree tree, Void nothing) {
            must(false, 2, at(tree));
            return null;
        }

        @Override
        public Void visitMemberReference(MemberReferenceTree tree, Void nothing) {
            must(false, 2, at(tree));
            return null;
        }

        @Override
        public Void visitInstanceOf(InstanceOfTree tree, Void nothing) {
            must(false, 6, "none is needed: " + at(tree));
            return null;
        }

        @Override
        public Void visitTypeCast(TypeCastTree tree, Void nothing) {
            must(typeOf(tree.getType()).getKind().isPrimitive(), 6, "a cast of an object: " + at(tree));
            return super.visitTypeCast(tree, nothing);
        }

        @Override
        public Void visitThrow(ThrowTree tree, Void nothing) {
            must(false, 6, at(tree));
            return null;
        }

        @Override
        public Void visitTry(TryTree tree, Void nothing) {
            must(false, 6, at(tree));
            return null;
        }

        @Override
        public Void visitSynchronized(SynchronizedTree tree, Void nothing) {
            must(false, 6, at(tree));
            return null;
        }

        @Override
        public Void visitAssert(AssertTree tree, Void nothing) {
            must(false, 6, at(tree));
            return null;
        }

        void ended() {
            must(classes <= MOST_CLASSES, 11, "there are " + classes + " classes");
            for (ExecutableElement one : privates) {
                must(!publicNames.contains(one.getSimpleName().toString()), 1, one + " bears the name of a public one");
            }
            int deepest = 0;
            for (ExecutableElement one : calls.keySet()) {
                boolean isRecursion = reached(one).contains(one);
                boolean hasDepth = one.getParameters().stream().anyMatch(each -> each.asType().getKind() == TypeKind.INT);
                must(!isRecursion || hasDepth, 8, one + " carries no depth");
                must(!isRecursion || one.getModifiers().contains(Modifier.PRIVATE), 8, one + " is not private");
                deepest = Math.max(deepest, depth(one));
            }
            must(deepest <= MOST_CALLS_DEEP, 11, "calls go " + deepest + " deep");
            System.out.println("LanguageTree: " + calls.size() + " methods, calls that are no recursion go " + deepest + " deep");
        }

        private Set<Element> reached(Element from) {
            Set<Element> seen = new LinkedHashSet<>();
            List<Element> open = new ArrayList<>();
            open.add(from);
            while (!open.isEmpty()) {
                for (Element next : calls.getOrDefault(open.remove(open.size() - 1), Set.of())) {
                    if (seen.add(next)) {
                        open.add(next);
                    }
                }
            }
            return seen;
        }

        /** How many calls stand open at most from here on; those that call one another count as one. */
        private int depth(Element from) {
            Integer known = depths.get(from);
            if (known != null) {
                return known;
            }
            Set<Element> ring = new LinkedHashSet<>();
            ring.add(from);
            for (Element each : reached(from)) {
                if (reached(each).contains(from)) {
                    ring.add(each);
                }
            }
            int deepest = 0;
            for (Element each : ring) {
                for (Element next : calls.getOrDefault(each, Set.of())) {
                    if (!ring.contains(next)) {
                        deepest = Math.max(deepest, depth(next));
                    }
                }
            }
            depths.put(from, deepest + 1);
            return deepest + 1;
        }
    }
}
