import com.sun.source.tree.AssertTree;
import com.sun.source.tree.BinaryTree;
import com.sun.source.tree.BlockTree;
import com.sun.source.tree.ClassTree;
import com.sun.source.tree.CompilationUnitTree;
import com.sun.source.tree.DoWhileLoopTree;
import com.sun.source.tree.ExpressionTree;
import com.sun.source.tree.ForLoopTree;
import com.sun.source.tree.IdentifierTree;
import com.sun.source.tree.LambdaExpressionTree;
import com.sun.source.tree.LiteralTree;
import com.sun.source.tree.MemberReferenceTree;
import com.sun.source.tree.MethodInvocationTree;
import com.sun.source.tree.MethodTree;
import com.sun.source.tree.NewClassTree;
import com.sun.source.tree.PrimitiveTypeTree;
import com.sun.source.tree.SynchronizedTree;
import com.sun.source.tree.ThrowTree;
import com.sun.source.tree.Tree;
import com.sun.source.tree.TryTree;
import com.sun.source.tree.TypeCastTree;
import com.sun.source.tree.VariableTree;
import com.sun.source.tree.WhileLoopTree;
import com.sun.source.util.JavacTask;
import com.sun.source.util.TreePath;
import com.sun.source.util.TreePathScanner;
import com.sun.source.util.Trees;
import java.io.File;
import java.io.IOException;
import java.util.ArrayList;
import java.util.LinkedHashMap;
import java.util.LinkedHashSet;
import java.util.List;
import java.util.Map;
import java.util.Set;
import java.util.TreeSet;
import javax.lang.model.element.Element;
import javax.lang.model.element.ElementKind;
import javax.lang.model.element.ExecutableElement;
import javax.lang.model.element.Modifier;
import javax.lang.model.element.TypeElement;
import javax.lang.model.element.VariableElement;
import javax.lang.model.type.TypeMirror;
import javax.tools.JavaCompiler;
import javax.tools.StandardJavaFileManager;
import javax.tools.ToolProvider;

/** The rules of ../shared/LANGUAGE.md that can be seen in the class's text, as the compiler reads it. */
public final class LanguageTest {
    private static final String FILE = "src/main/java/SheetDoctor.java";
    private static final Set<String> TYPES = Set.of("java.lang.String", "java.lang.Math", "java.lang.Long",
            "java.lang.System", "java.util.Arrays", "java.util.NoSuchElementException");
    private static final Set<String> CALLS = Set.of("java.lang.String.indexOf", "java.lang.Math.max",
            "java.lang.Math.min", "java.lang.Long.bitCount", "java.lang.System.arraycopy", "java.util.Arrays.copyOf");
    private static final int MOST_LINES = 60;
    private static final int MOST_PARAMETERS = 7;
    private static final int MOST_CLASSES = 12;
    private static final int MOST_FIELDS = 20;
    private static final int DEEPEST_CALLS = 8;

    public static void main(String[] args) throws IOException {
        JavaCompiler compiler = ToolProvider.getSystemJavaCompiler();
        try (StandardJavaFileManager files = compiler.getStandardFileManager(null, null, null)) {
            JavacTask task = (JavacTask) compiler.getTask(null, files, null, List.of("-proc:none"), null,
                    files.getJavaFileObjects(new File(FILE)));
            Iterable<? extends CompilationUnitTree> units = task.parse();
            task.analyze();
            Reader reader = new Reader(Trees.instance(task));
            for (CompilationUnitTree unit : units) {
                reader.scan(unit, null);
            }
            tell(reader);
        }
        Expect.end();
    }

    private static void tell(Reader reader) {
        Expect.yes("the class was read", reader.classes > 0 && reader.calls.size() > 100);
        Expect.same("what is outside the rules", String.join("; ", reader.outside), "");
        Expect.yes("rule 11: " + reader.classes + " classes", reader.classes <= MOST_CLASSES);
        for (ExecutableElement method : reader.calls.keySet()) {
            int deep = longest(reader.calls, method, new LinkedHashSet<>());
            Expect.yes("rule 11: calls go " + deep + " deep from " + method, deep <= DEEPEST_CALLS);
            if (reaches(reader.calls, method, method, new LinkedHashSet<>())) {
                Expect.yes("rule 8: " + method + " calls itself and carries its depth", carriesDepth(method));
            }
        }
    }

    /** What calls itself counts once. */
    private static int longest(Map<ExecutableElement, Set<ExecutableElement>> calls, ExecutableElement from,
            Set<ExecutableElement> open) {
        int deepest = 0;
        open.add(from);
        for (ExecutableElement next : calls.getOrDefault(from, Set.of())) {
            if (!open.contains(next)) {
                deepest = Math.max(deepest, longest(calls, next, open));
            }
        }
        open.remove(from);
        return deepest + 1;
    }

    private static boolean reaches(Map<ExecutableElement, Set<ExecutableElement>> calls, ExecutableElement from,
            ExecutableElement to, Set<ExecutableElement> seen) {
        for (ExecutableElement next : calls.getOrDefault(from, Set.of())) {
            if (next.equals(to) || seen.add(next) && reaches(calls, next, to, seen)) {
                return true;
            }
        }
        return false;
    }

    private static boolean carriesDepth(ExecutableElement method) {
        return method.getParameters().stream().anyMatch(one -> one.getSimpleName().contentEquals("depth"));
    }

    /** Goes through the text, and writes down what calls what, and what the rules do not have. */
    private static final class Reader extends TreePathScanner<Void, Void> {
        final Map<ExecutableElement, Set<ExecutableElement>> calls = new LinkedHashMap<>();
        final List<String> outside = new ArrayList<>();
        int classes = 0;
        private final Trees trees;
        private final Set<String> faceNames = new TreeSet<>();
        private ExecutableElement method = null;

        Reader(Trees trees) {
            this.trees = trees;
            for (java.lang.reflect.Method one : SheetDoctor.class.getMethods()) {
                if (one.getDeclaringClass() == SheetDoctor.class) {
                    faceNames.add(one.getName());
                }
            }
        }

        private void refuse(int rule, String what) {
            long line = lineOf(trees.getSourcePositions()
                    .getStartPosition(getCurrentPath().getCompilationUnit(), getCurrentPath().getLeaf()));
            outside.add("rule " + rule + " in line " + line + ": " + what);
        }

        private long lineOf(long position) {
            return getCurrentPath().getCompilationUnit().getLineMap().getLineNumber(position);
        }

        @Override
        public Void visitClass(ClassTree tree, Void none) {
            classes++;
            Tree around = getCurrentPath().getParentPath().getLeaf();
            Set<Modifier> modifiers = tree.getModifiers().getFlags();
            if (around instanceof ClassTree) {
                if (!modifiers.contains(Modifier.STATIC) || modifiers.contains(Modifier.PUBLIC)
                        || modifiers.contains(Modifier.PROTECTED)) {
                    refuse(1, "the class " + tree.getSimpleName());
                }
            } else if (!(around instanceof CompilationUnitTree)) {
                refuse(2, "a class within a method");
            }
            int fields = 0;
            for (Tree member : tree.getMembers()) {
                if (member instanceof BlockTree) {
                    refuse(5, "an initialiser block");
                }
                if (member instanceof VariableTree field
                        && !field.getModifiers().getFlags().contains(Modifier.STATIC)) {
                    fields++;
                }
            }
            if (fields > MOST_FIELDS) {
                refuse(11, fields + " fields");
            }
            return super.visitClass(tree, none);
        }

        @Override
        public Void visitVariable(VariableTree tree, Void none) {
            Element element = trees.getElement(getCurrentPath());
            if (element.getKind() == ElementKind.FIELD && element.getModifiers().contains(Modifier.STATIC)
                    && ((VariableElement) element).getConstantValue() == null) {
                refuse(5, "the static field " + tree.getName() + " is no constant");
            }
            return super.visitVariable(tree, none);
        }

        @Override
        public Void visitMethod(MethodTree tree, Void none) {
            ExecutableElement outer = method;
            method = (ExecutableElement) trees.getElement(getCurrentPath());
            calls.putIfAbsent(method, new LinkedHashSet<>());
            if (faceNames.contains(tree.getName().toString()) && !method.getModifiers().contains(Modifier.PUBLIC)) {
                refuse(1, "the name " + tree.getName() + " is the face's");
            }
            if (tree.getParameters().size() > MOST_PARAMETERS) {
                refuse(11, tree.getName() + " has too many parameters");
            }
            CompilationUnitTree unit = getCurrentPath().getCompilationUnit();
            long lines = 1 + lineOf(trees.getSourcePositions().getEndPosition(unit, tree))
                    - lineOf(trees.getSourcePositions().getStartPosition(unit, tree));
            if (lines > MOST_LINES) {
                refuse(11, tree.getName() + " has " + lines + " lines");
            }
            super.visitMethod(tree, none);
            method = outer;
            return null;
        }

        @Override
        public Void visitMethodInvocation(MethodInvocationTree tree, Void none) {
            ExecutableElement called = (ExecutableElement) trees.getElement(getCurrentPath());
            TypeElement owner = (TypeElement) called.getEnclosingElement();
            String name = owner.getQualifiedName() + "." + called.getSimpleName();
            boolean isSuper = called.getKind() == ElementKind.CONSTRUCTOR;
            if (!isSuper && !isOwn(owner) && !CALLS.contains(name)) {
                refuse(4, "the call " + name);
            }
            if (method != null && !isSuper) {
                calls.get(method).add(called);
            }
            return super.visitMethodInvocation(tree, none);
        }

        @Override
        public Void visitNewClass(NewClassTree tree, Void none) {
            if (tree.getClassBody() != null) {
                refuse(2, "a class without a name");
            }
            if (method != null) {
                calls.get(method).add((ExecutableElement) trees.getElement(getCurrentPath()));
            }
            return super.visitNewClass(tree, none);
        }

        @Override
        public Void visitIdentifier(IdentifierTree tree, Void none) {
            Element element = trees.getElement(getCurrentPath());
            if (element instanceof TypeElement type && !isOwn(type)
                    && !TYPES.contains(type.getQualifiedName().toString())) {
                refuse(3, "the type " + type);
            }
            return super.visitIdentifier(tree, none);
        }

        private static boolean isOwn(TypeElement type) {
            return type.getQualifiedName().toString().matches("SheetDoctor(\\..*)?");
        }

        @Override
        public Void visitPrimitiveType(PrimitiveTypeTree tree, Void none) {
            switch (tree.getPrimitiveTypeKind()) {
                case DOUBLE, FLOAT -> refuse(3, "a broken number");
                default -> { }
            }
            return super.visitPrimitiveType(tree, none);
        }

        @Override
        public Void visitTypeCast(TypeCastTree tree, Void none) {
            if (!(tree.getType() instanceof PrimitiveTypeTree)) {
                refuse(6, "a cast of an object");
            }
            return super.visitTypeCast(tree, none);
        }

        @Override
        public Void visitBinary(BinaryTree tree, Void none) {
            boolean texts = isText(tree.getLeftOperand()) || isText(tree.getRightOperand());
            if (texts && tree.getKind() == Tree.Kind.PLUS) {
                refuse(10, "texts joined by +");
            } else if (texts) {
                refuse(6, "texts compared by " + tree.getKind());
            }
            return super.visitBinary(tree, none);
        }

        private boolean isText(ExpressionTree operand) {
            TypeMirror type = trees.getTypeMirror(new TreePath(getCurrentPath(), operand));
            return type != null && type.toString().matches("java\\.lang\\.(String|Integer)");
        }

        @Override
        public Void visitThrow(ThrowTree tree, Void none) {
            boolean plain = tree.getExpression() instanceof NewClassTree made
                    && made.getIdentifier().toString().equals("NoSuchElementException")
                    && made.getArguments().stream().allMatch(one -> one instanceof LiteralTree);
            boolean inCell = method != null && method.getSimpleName().contentEquals("cell");
            if (!plain || !inCell) {
                refuse(6, "the document has no such throw");
            }
            return super.visitThrow(tree, none);
        }

        @Override
        public Void visitTry(TryTree tree, Void none) {
            refuse(6, "a try: no method of the class needs one");
            return super.visitTry(tree, none);
        }

        @Override
        public Void visitAssert(AssertTree tree, Void none) {
            refuse(6, "an assert");
            return super.visitAssert(tree, none);
        }

        @Override
        public Void visitSynchronized(SynchronizedTree tree, Void none) {
            refuse(6, "synchronized");
            return super.visitSynchronized(tree, none);
        }

        @Override
        public Void visitLambdaExpression(LambdaExpressionTree tree, Void none) {
            refuse(2, "a lambda");
            return super.visitLambdaExpression(tree, none);
        }

        @Override
        public Void visitMemberReference(MemberReferenceTree tree, Void none) {
            refuse(2, "a method reference");
            return super.visitMemberReference(tree, none);
        }

        @Override
        public Void visitForLoop(ForLoopTree tree, Void none) {
            mustEnd(tree.getCondition());
            return super.visitForLoop(tree, none);
        }

        @Override
        public Void visitWhileLoop(WhileLoopTree tree, Void none) {
            mustEnd(tree.getCondition());
            return super.visitWhileLoop(tree, none);
        }

        @Override
        public Void visitDoWhileLoop(DoWhileLoopTree tree, Void none) {
            mustEnd(tree.getCondition());
            return super.visitDoWhileLoop(tree, none);
        }

        /** A loop counts against a bound. */
        private void mustEnd(ExpressionTree condition) {
            if (condition == null || !condition.toString().contains("<") && !condition.toString().contains(">")) {
                refuse(9, "a loop without a bound in sight");
            }
        }
    }
}
