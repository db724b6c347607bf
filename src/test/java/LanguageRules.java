import com.sun.source.tree.ArrayAccessTree;
import com.sun.source.tree.BinaryTree;
import com.sun.source.tree.BlockTree;
import com.sun.source.tree.ClassTree;
import com.sun.source.tree.CompilationUnitTree;
import com.sun.source.tree.CompoundAssignmentTree;
import com.sun.source.tree.DoWhileLoopTree;
import com.sun.source.tree.ExpressionStatementTree;
import com.sun.source.tree.ExpressionTree;
import com.sun.source.tree.ForLoopTree;
import com.sun.source.tree.IdentifierTree;
import com.sun.source.tree.ImportTree;
import com.sun.source.tree.MethodInvocationTree;
import com.sun.source.tree.MethodTree;
import com.sun.source.tree.NewArrayTree;
import com.sun.source.tree.NewClassTree;
import com.sun.source.tree.ParenthesizedTree;
import com.sun.source.tree.StatementTree;
import com.sun.source.tree.ThrowTree;
import com.sun.source.tree.Tree;
import com.sun.source.tree.UnaryTree;
import com.sun.source.tree.VariableTree;
import com.sun.source.tree.WhileLoopTree;
import com.sun.source.util.JavacTask;
import com.sun.source.util.TreePath;
import com.sun.source.util.TreePathScanner;
import com.sun.source.util.Trees;
import java.io.IOException;
import java.net.URI;
import java.util.ArrayList;
import java.util.HashMap;
import java.util.HashSet;
import java.util.LinkedHashMap;
import java.util.LinkedHashSet;
import java.util.List;
import java.util.Map;
import java.util.Set;
import java.util.TreeSet;
import javax.lang.model.element.Element;
import javax.lang.model.element.ElementKind;
import javax.lang.model.element.ExecutableElement;
import javax.lang.model.element.Modifier;
import javax.lang.model.type.ArrayType;
import javax.lang.model.type.DeclaredType;
import javax.lang.model.type.TypeKind;
import javax.lang.model.type.TypeMirror;
import javax.tools.DiagnosticCollector;
import javax.tools.JavaFileObject;
import javax.tools.SimpleJavaFileObject;
import javax.tools.ToolProvider;

/**
 * Looks through a program for what LANGUAGE.md rules out, as javac reads it. Where the program does without something
 * that a rule allows on terms, that thing is refused altogether: the terms need not be looked at then.
 */
final class LanguageRules extends TreePathScanner<Void, Void> {
    private static final String PROGRAM = "RelayPassages";
    private static final int MOST_PARAMETERS = 7;
    private static final int MOST_LINES = 60;
    private static final int MOST_CLASSES = 12;
    private static final int MOST_FIELDS = 20;
    private static final int DEEPEST = 8;
    private static final Set<String> LIBRARY = Set.of("java.lang.Math.max", "java.lang.Math.min");
    private static final Set<String> EXCEPTIONS = Set.of("java.lang.IllegalStateException",
        "java.lang.IllegalArgumentException", "java.util.NoSuchElementException");
    private static final Set<String> OF_OBJECTS = Set.of("equals", "hashCode", "toString");
    private static final Map<Tree.Kind, Integer> UNNEEDED = Map.ofEntries(
        Map.entry(Tree.Kind.LAMBDA_EXPRESSION, 2), Map.entry(Tree.Kind.MEMBER_REFERENCE, 2),
        Map.entry(Tree.Kind.TRY, 6), Map.entry(Tree.Kind.SYNCHRONIZED, 6), Map.entry(Tree.Kind.ASSERT, 6),
        Map.entry(Tree.Kind.TYPE_CAST, 6), Map.entry(Tree.Kind.INSTANCE_OF, 6),
        Map.entry(Tree.Kind.DIVIDE, 7), Map.entry(Tree.Kind.REMAINDER, 7),
        Map.entry(Tree.Kind.DIVIDE_ASSIGNMENT, 7), Map.entry(Tree.Kind.REMAINDER_ASSIGNMENT, 7),
        Map.entry(Tree.Kind.ENHANCED_FOR_LOOP, 7), Map.entry(Tree.Kind.DO_WHILE_LOOP, 9));

    private final String source;
    private final Trees trees;
    private final CompilationUnitTree unit;
    private final List<String> broken = new ArrayList<>();
    private final Set<String> makers = new TreeSet<>();
    private final Set<String> faceNames = new HashSet<>();
    private final Map<ExecutableElement, Set<ExecutableElement>> calls = new LinkedHashMap<>();
    private final Map<ExecutableElement, Integer> depths = new HashMap<>();
    private int classes = 0;

    private LanguageRules(String source, Trees trees, CompilationUnitTree unit) {
        this.source = source;
        this.trees = trees;
        this.unit = unit;
    }

    static LanguageRules of(String source) {
        JavaFileObject file = new SimpleJavaFileObject(URI.create("string:///" + PROGRAM + ".java"),
            JavaFileObject.Kind.SOURCE) {
            @Override
            public CharSequence getCharContent(boolean ignored) {
                return source;
            }
        };
        DiagnosticCollector<JavaFileObject> told = new DiagnosticCollector<>();
        JavacTask task = (JavacTask) ToolProvider.getSystemJavaCompiler()
            .getTask(null, null, told, List.of("-proc:none"), null, List.of(file));
        try {
            CompilationUnitTree unit = task.parse().iterator().next();
            task.analyze();
            if (!told.getDiagnostics().isEmpty()) {
                throw new AssertionError("does not compile: " + told.getDiagnostics());
            }
            LanguageRules rules = new LanguageRules(source, Trees.instance(task), unit);
            rules.look();
            return rules;
        } catch (IOException e) {
            throw new AssertionError(e);
        }
    }

    /** What is not as the rules ask, each with the rule's number and the line. */
    List<String> broken() {
        return broken;
    }

    /** The methods and constructors that make objects or arrays, but for exceptions that they throw. */
    Set<String> makers() {
        return makers;
    }

    /** How many calls stand open at once, at most. */
    int deepest() {
        int deepest = 0;
        for (int depth : depths.values()) {
            deepest = Math.max(deepest, depth);
        }
        return deepest;
    }

    private void look() {
        demand(source.chars().allMatch(c -> c < 128), 3, "a character that is not plain", unit);
        demand(unit.getPackage() == null, 1, "a package line", unit);
        demand(unit.getTypeDecls().size() == 1, 1, "more than one class of the file", unit);
        for (Tree tree : unit.getTypeDecls()) {
            collectFace(tree);
        }
        scan(unit, null);
        demand(classes <= MOST_CLASSES, 11, "too many classes", unit);
        for (ExecutableElement method : calls.keySet()) {
            depthOf(method, new LinkedHashSet<>());
        }
        demand(deepest() <= DEEPEST, 11, "calls go too deep", unit);
    }

    private void collectFace(Tree tree) {
        if (tree instanceof ClassTree face) {
            for (Tree member : face.getMembers()) {
                if (member instanceof MethodTree method
                    && method.getModifiers().getFlags().contains(Modifier.PUBLIC)) {
                    faceNames.add(method.getName().toString());
                }
            }
        }
    }

    private void demand(boolean good, int rule, String what, Tree tree) {
        if (!good) {
            broken.add("rule " + rule + ": " + what + ", line " + lineOf(startOf(tree)));
        }
    }

    private long startOf(Tree tree) {
        return Math.max(0, trees.getSourcePositions().getStartPosition(unit, tree));
    }

    private long lineOf(long position) {
        return unit.getLineMap().getLineNumber(position);
    }

    @Override
    public Void scan(Tree tree, Void nothing) {
        if (tree != null && UNNEEDED.containsKey(tree.getKind())) {
            demand(false, UNNEEDED.get(tree.getKind()), "a " + tree.getKind(), tree);
        }
        return super.scan(tree, nothing);
    }

    @Override
    public Void visitImport(ImportTree tree, Void nothing) {
        demand(EXCEPTIONS.contains(tree.getQualifiedIdentifier().toString()), 4, "an import", tree);
        return null;
    }

    @Override
    public Void visitClass(ClassTree tree, Void nothing) {
        classes++;
        Set<Modifier> flags = tree.getModifiers().getFlags();
        Tree around = getCurrentPath().getParentPath().getLeaf();
        if (around == unit) {
            demand(flags.contains(Modifier.PUBLIC) && flags.contains(Modifier.FINAL)
                && tree.getSimpleName().contentEquals(PROGRAM), 1, "another class", tree);
        } else {
            demand(around instanceof ClassTree, 2, "a local or nameless class", tree);
            demand(flags.contains(Modifier.STATIC), 1, "a class inside that is not static", tree);
            demand(!flags.contains(Modifier.PUBLIC) && !flags.contains(Modifier.PROTECTED), 1,
                "a class inside that shows", tree);
        }
        int fields = 0;
        for (Tree member : tree.getMembers()) {
            fields += member instanceof VariableTree field && !isStatic(field) ? 1 : 0;
            demand(!(member instanceof BlockTree), 5, "an initialiser block", member);
        }
        demand(fields <= MOST_FIELDS, 11, "too many fields", tree);
        return super.visitClass(tree, nothing);
    }

    private static boolean isStatic(VariableTree field) {
        return field.getModifiers().getFlags().contains(Modifier.STATIC);
    }

    @Override
    public Void visitMethod(MethodTree tree, Void nothing) {
        String name = tree.getName().toString();
        Set<Modifier> flags = tree.getModifiers().getFlags();
        calls.putIfAbsent((ExecutableElement) trees.getElement(getCurrentPath()), new LinkedHashSet<>());
        demand(tree.getParameters().size() <= MOST_PARAMETERS, 11, "too many parameters", tree);
        long last = lineOf(Math.max(0, trees.getSourcePositions().getEndPosition(unit, tree)));
        demand(last - lineOf(startOf(tree)) < MOST_LINES, 11, "a long method", tree);
        demand(!flags.contains(Modifier.SYNCHRONIZED) && !flags.contains(Modifier.NATIVE), 6, "no plain method", tree);
        demand(!flags.contains(Modifier.PRIVATE) || name.equals("<init>") || !faceNames.contains(name), 1,
            "a private method with a public one's name", tree);
        demand(!OF_OBJECTS.contains(name), 6, "a method " + name, tree);
        if (tree.getReturnType() != null) {
            checkType(tree.getReturnType());
        }
        return super.visitMethod(tree, nothing);
    }

    @Override
    public Void visitVariable(VariableTree tree, Void nothing) {
        checkType(tree.getType());
        if (isStatic(tree)) {
            Set<Modifier> flags = tree.getModifiers().getFlags();
            Tree.Kind kind = tree.getType().getKind();
            demand(flags.contains(Modifier.FINAL), 5, "a static field that changes", tree);
            demand(kind == Tree.Kind.PRIMITIVE_TYPE && tree.getInitializer() != null, 5, "no constant", tree);
        }
        return super.visitVariable(tree, nothing);
    }

    private void checkType(Tree written) {
        TypeMirror type = trees.getTypeMirror(new TreePath(getCurrentPath(), written));
        demand(isAllowed(type), 3, "a type " + type, written);
    }

    private static boolean isAllowed(TypeMirror type) {
        if (type.getKind() == TypeKind.ARRAY) {
            TypeMirror element = ((ArrayType) type).getComponentType();
            return element.getKind() != TypeKind.ARRAY && isAllowed(element);
        }
        return switch (type.getKind()) {
            case INT, LONG, BOOLEAN, VOID -> true;
            case DECLARED -> isOwn(((DeclaredType) type).asElement());
            default -> false;
        };
    }

    private static boolean isOwn(Element element) {
        for (Element e = element; e != null; e = e.getEnclosingElement()) {
            if (e.getKind() == ElementKind.CLASS && e.toString().equals(PROGRAM)) {
                return true;
            }
        }
        return false;
    }

    @Override
    public Void visitMethodInvocation(MethodInvocationTree tree, Void nothing) {
        ExecutableElement called = (ExecutableElement) trees.getElement(getCurrentPath());
        boolean above = called.getKind() == ElementKind.CONSTRUCTOR;
        MethodTree method = enclosingMethod();
        if (isOwn(called)) {
            noteCall(called);
        } else if (!above) {
            String name = called.getEnclosingElement() + "." + called.getSimpleName();
            demand(LIBRARY.contains(name), 4, name, tree);
        }
        demand(above || method == null || method.getReturnType() != null, 12, "a call in a constructor", tree);
        return super.visitMethodInvocation(tree, nothing);
    }

    private void noteCall(ExecutableElement called) {
        MethodTree method = enclosingMethod();
        if (method != null) {
            Element caller = trees.getElement(TreePath.getPath(unit, method));
            calls.computeIfAbsent((ExecutableElement) caller, unused -> new LinkedHashSet<>()).add(called);
        }
    }

    private MethodTree enclosingMethod() {
        for (TreePath path = getCurrentPath(); path != null; path = path.getParentPath()) {
            if (path.getLeaf() instanceof MethodTree method) {
                return method;
            }
            if (path.getLeaf() instanceof ClassTree) {
                return null;
            }
        }
        return null;
    }

    private int depthOf(ExecutableElement method, Set<ExecutableElement> open) {
        if (depths.containsKey(method)) {
            return depths.get(method);
        }
        if (!open.add(method)) {
            broken.add("rule 8: a recursion through " + method);
            return 0;
        }
        int below = 0;
        for (ExecutableElement called : calls.getOrDefault(method, Set.of())) {
            below = Math.max(below, depthOf(called, open));
        }
        open.remove(method);
        depths.put(method, below + 1);
        return below + 1;
    }

    @Override
    public Void visitThrow(ThrowTree tree, Void nothing) {
        MethodTree method = enclosingMethod();
        demand(method != null && method.getReturnType() != null, 6, "a throw in a constructor", tree);
        demand(tree.getExpression() instanceof NewClassTree made && isPlainException(made), 6, "a throw", tree);
        return super.visitThrow(tree, nothing);
    }

    private boolean isPlainException(NewClassTree made) {
        TypeMirror type = trees.getTypeMirror(TreePath.getPath(unit, made));
        boolean plain = made.getArguments().isEmpty() || made.getArguments().size() == 1
            && made.getArguments().get(0).getKind() == Tree.Kind.STRING_LITERAL;
        return plain && made.getClassBody() == null && EXCEPTIONS.contains(type.toString());
    }

    @Override
    public Void visitNewClass(NewClassTree tree, Void nothing) {
        boolean thrown = getCurrentPath().getParentPath().getLeaf() instanceof ThrowTree;
        ExecutableElement constructor = (ExecutableElement) trees.getElement(getCurrentPath());
        if (isOwn(constructor)) {
            noteCall(constructor);
        }
        if (!thrown) {
            demand(isOwn(constructor), 4, "an object of the library", tree);
            noteMaking(tree);
        }
        return super.visitNewClass(tree, nothing);
    }

    @Override
    public Void visitNewArray(NewArrayTree tree, Void nothing) {
        noteMaking(tree);
        return super.visitNewArray(tree, nothing);
    }

    private void noteMaking(Tree tree) {
        MethodTree method = enclosingMethod();
        makers.add(method == null ? "<init>" : method.getName().toString());
        for (TreePath path = getCurrentPath(); path != null; path = path.getParentPath()) {
            demand(!isLoop(path.getLeaf()), 12, "an object made in a loop", tree);
        }
    }

    private static boolean isLoop(Tree tree) {
        return tree instanceof ForLoopTree || tree instanceof WhileLoopTree || tree instanceof DoWhileLoopTree;
    }

    @Override
    public Void visitIdentifier(IdentifierTree tree, Void nothing) {
        Tree around = getCurrentPath().getParentPath().getLeaf();
        boolean handedOut = tree.getName().contentEquals("this") && around.getKind() != Tree.Kind.MEMBER_SELECT;
        demand(!handedOut, 12, "the object itself handed out", tree);
        return super.visitIdentifier(tree, nothing);
    }

    @Override
    public Void visitBinary(BinaryTree tree, Void nothing) {
        TypeMirror left = trees.getTypeMirror(new TreePath(getCurrentPath(), tree.getLeftOperand()));
        TypeMirror right = trees.getTypeMirror(new TreePath(getCurrentPath(), tree.getRightOperand()));
        if (tree.getKind() == Tree.Kind.PLUS) {
            demand(!isLibrary(left) && !isLibrary(right), 10, "texts joined by +", tree);
        } else {
            demand(!isLibrary(left) && !isLibrary(right), 6, "objects of the library compared", tree);
        }
        return super.visitBinary(tree, nothing);
    }

    @Override
    public Void visitCompoundAssignment(CompoundAssignmentTree tree, Void nothing) {
        TypeMirror type = trees.getTypeMirror(new TreePath(getCurrentPath(), tree.getVariable()));
        demand(!isLibrary(type), 10, "texts joined by +=", tree);
        return super.visitCompoundAssignment(tree, nothing);
    }

    private static boolean isLibrary(TypeMirror type) {
        return type.getKind() == TypeKind.DECLARED && !isOwn(((DeclaredType) type).asElement());
    }

    @Override
    public Void visitArrayAccess(ArrayAccessTree tree, Void nothing) {
        ExpressionTree index = tree.getIndex();
        demand(!(index instanceof UnaryTree), 7, "an index that changes as it is used", tree);
        return super.visitArrayAccess(tree, nothing);
    }

    @Override
    public Void visitForLoop(ForLoopTree tree, Void nothing) {
        boolean counts = tree.getUpdate().size() == 1
            && counts(tree.getCondition(), tree.getUpdate().get(0).getExpression());
        demand(counts, 9, "a loop without a counter", tree);
        return super.visitForLoop(tree, nothing);
    }

    @Override
    public Void visitWhileLoop(WhileLoopTree tree, Void nothing) {
        ExpressionTree condition = bare(tree.getCondition());
        if (condition.getKind() == Tree.Kind.CONDITIONAL_AND) {
            condition = ((BinaryTree) condition).getLeftOperand();
        }
        boolean counts = false;
        if (tree.getStatement() instanceof BlockTree block) {
            for (StatementTree statement : block.getStatements()) {
                counts |= statement instanceof ExpressionStatementTree step && counts(condition, step.getExpression());
            }
        }
        demand(counts, 9, "a loop without a counter", tree);
        return super.visitWhileLoop(tree, nothing);
    }

    private static ExpressionTree bare(ExpressionTree tree) {
        return tree instanceof ParenthesizedTree wrapped ? wrapped.getExpression() : tree;
    }

    /** Whether the condition holds a counter under a bound to which the step leads, or over one. */
    private static boolean counts(ExpressionTree condition, ExpressionTree step) {
        if (!(condition instanceof BinaryTree compared && step instanceof UnaryTree stepped)) {
            return false;
        }
        Tree.Kind kind = compared.getKind();
        boolean rises = kind == Tree.Kind.LESS_THAN || kind == Tree.Kind.LESS_THAN_EQUAL;
        boolean falls = kind == Tree.Kind.GREATER_THAN || kind == Tree.Kind.GREATER_THAN_EQUAL;
        boolean sameCounter = compared.getLeftOperand().toString().equals(stepped.getExpression().toString());
        return sameCounter && (rises && stepped.getKind() == Tree.Kind.POSTFIX_INCREMENT
            || falls && stepped.getKind() == Tree.Kind.POSTFIX_DECREMENT);
    }
}
