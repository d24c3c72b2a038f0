import com.sun.source.tree.AnnotationTree;
import com.sun.source.tree.AssertTree;
import com.sun.source.tree.BinaryTree;
import com.sun.source.tree.BlockTree;
import com.sun.source.tree.ClassTree;
import com.sun.source.tree.CompilationUnitTree;
import com.sun.source.tree.CompoundAssignmentTree;
import com.sun.source.tree.DoWhileLoopTree;
import com.sun.source.tree.EnhancedForLoopTree;
import com.sun.source.tree.ExpressionTree;
import com.sun.source.tree.ForLoopTree;
import com.sun.source.tree.IdentifierTree;
import com.sun.source.tree.LambdaExpressionTree;
import com.sun.source.tree.MemberReferenceTree;
import com.sun.source.tree.MemberSelectTree;
import com.sun.source.tree.MethodInvocationTree;
import com.sun.source.tree.MethodTree;
import com.sun.source.tree.NewArrayTree;
import com.sun.source.tree.NewClassTree;
import com.sun.source.tree.SynchronizedTree;
import com.sun.source.tree.ThrowTree;
import com.sun.source.tree.Tree;
import com.sun.source.tree.TryTree;
import com.sun.source.tree.TypeCastTree;
import com.sun.source.tree.VariableTree;
import com.sun.source.tree.WhileLoopTree;
import com.sun.source.util.JavacTask;
import com.sun.source.util.TreePath;
import com.sun.source.util.TreePathScanner;
import com.sun.source.util.Trees;
import java.nio.file.Path;
import java.util.ArrayList;
import java.util.HashMap;
import java.util.LinkedHashMap;
import java.util.LinkedHashSet;
import java.util.List;
import java.util.Map;
import java.util.Set;
import javax.lang.model.element.Element;
import javax.lang.model.element.ElementKind;
import javax.lang.model.element.ExecutableElement;
import javax.lang.model.element.Modifier;
import javax.lang.model.element.TypeElement;
import javax.lang.model.type.ArrayType;
import javax.lang.model.type.TypeKind;
import javax.lang.model.type.TypeMirror;
import javax.lang.model.util.Types;
import javax.tools.JavaCompiler;
import javax.tools.StandardJavaFileManager;
import javax.tools.ToolProvider;

/** Those rules of ../shared/LANGUAGE.md for which one must know what a name stands for: the compiler's trees tell. */
public final class LanguageTreesTest extends TreePathScanner<Void, Void> {
    private static final int DEEPEST = 8;
    private static final Set<String> LIBRARY = Set.of("String.length", "String.charAt", "System.arraycopy", "Arrays.fill",
        "Math.min", "Math.max", "Math.abs");

    /** A call: by which method, of which, on himself (this, super), and whether super's is meant. */
    private record Call(ExecutableElement of, boolean onSelf, boolean onSuper) {
    }

    private final Trees trees;
    private final Types types;
    private final CompilationUnitTree unit;
    private final List<TypeElement> classes = new ArrayList<>();
    private final Map<ExecutableElement, List<Call>> calls = new LinkedHashMap<>();
    private final Map<String, Integer> depths = new HashMap<>();
    private final Set<String> open = new LinkedHashSet<>();
    private final Set<String> turning = new LinkedHashSet<>();
    private int wrong = 0;
    private int loops = 0;

    private LanguageTreesTest(JavacTask task, CompilationUnitTree unit) {
        this.trees = Trees.instance(task);
        this.types = task.getTypes();
        this.unit = unit;
    }

    public static void main(String[] args) throws Exception {
        JavaCompiler compiler = ToolProvider.getSystemJavaCompiler();
        try (StandardJavaFileManager files = compiler.getStandardFileManager(null, null, null)) {
            var source = files.getJavaFileObjects(Path.of("src/main/java/ElevenYards.java"));
            JavacTask task = (JavacTask) compiler.getTask(null, files, null, List.of("-proc:none"), null, source);
            CompilationUnitTree unit = task.parse().iterator().next();
            task.analyze();
            LanguageTreesTest test = new LanguageTreesTest(task, unit);
            test.scan(unit, null);
            test.callDepths();
            if (test.wrong > 0) System.exit(1);
        }
    }

    private void must(boolean holds, String rule, Tree at) {
        if (holds) return;
        wrong++;
        long place = at == null ? -1 : trees.getSourcePositions().getStartPosition(unit, at);
        String line = place < 0 ? "" : "line " + unit.getLineMap().getLineNumber(place) + ": " + at;
        System.out.println("LANGUAGE.md, " + rule + " " + line);
    }

    private Element element() {
        return trees.getElement(getCurrentPath());
    }

    private TypeMirror typeOf(Tree tree) {
        return trees.getTypeMirror(new TreePath(getCurrentPath(), tree));
    }

    private boolean isOwn(Element element) {
        for (Element at = element; at != null; at = at.getEnclosingElement()) {
            if (at.getSimpleName().contentEquals("ElevenYards")) return true;
        }
        return false;
    }

    private boolean within(Tree.Kind... kinds) {
        for (TreePath at = getCurrentPath().getParentPath(); at != null; at = at.getParentPath()) {
            for (Tree.Kind kind : kinds) if (at.getLeaf().getKind() == kind) return true;
        }
        return false;
    }

    private MethodTree methodAround() {
        for (TreePath at = getCurrentPath(); at != null; at = at.getParentPath()) {
            if (at.getLeaf() instanceof MethodTree) return (MethodTree) at.getLeaf();
        }
        return null;
    }

    private ExecutableElement elementOf(MethodTree method) {
        return method == null ? null : (ExecutableElement) trees.getElement(trees.getPath(unit, method));
    }

    // ---- rules 2, 6, 9: what may not stand anywhere

    @Override
    public Void visitLambdaExpression(LambdaExpressionTree tree, Void none) {
        must(false, "rule 2, a lambda", tree);
        return super.visitLambdaExpression(tree, none);
    }

    @Override
    public Void visitMemberReference(MemberReferenceTree tree, Void none) {
        must(false, "rule 2, a method reference", tree);
        return super.visitMemberReference(tree, none);
    }

    @Override
    public Void visitThrow(ThrowTree tree, Void none) {
        must(false, "rule 6, throw", tree);
        return super.visitThrow(tree, none);
    }

    @Override
    public Void visitTry(TryTree tree, Void none) {
        must(false, "rule 6, try", tree);
        return super.visitTry(tree, none);
    }

    @Override
    public Void visitSynchronized(SynchronizedTree tree, Void none) {
        must(false, "rule 6, synchronized", tree);
        return super.visitSynchronized(tree, none);
    }

    @Override
    public Void visitAssert(AssertTree tree, Void none) {
        must(false, "rule 6, assert", tree);
        return super.visitAssert(tree, none);
    }

    @Override
    public Void visitAnnotation(AnnotationTree tree, Void none) {
        must(false, "rule 4, an annotation", tree);
        return super.visitAnnotation(tree, none);
    }

    @Override
    public Void visitWhileLoop(WhileLoopTree tree, Void none) {
        must(false, "rule 9, a loop without a counter of its own", tree);
        return super.visitWhileLoop(tree, none);
    }

    @Override
    public Void visitDoWhileLoop(DoWhileLoopTree tree, Void none) {
        must(false, "rule 9, a loop without a counter of its own", tree);
        return super.visitDoWhileLoop(tree, none);
    }

    @Override
    public Void visitEnhancedForLoop(EnhancedForLoopTree tree, Void none) {
        must(typeOf(tree.getExpression()).getKind() == TypeKind.ARRAY, "rule 12, a loop over no array", tree);
        return super.visitEnhancedForLoop(tree, none);
    }

    /** A loop counts one number, by one, against a bound, and nothing within it sets that number. */
    @Override
    public Void visitForLoop(ForLoopTree tree, Void none) {
        loops++;
        boolean counts = tree.getInitializer().size() == 1 && tree.getInitializer().get(0) instanceof VariableTree
            && tree.getUpdate().size() == 1 && tree.getCondition() != null;
        must(counts, "rule 9, no counter", tree);
        if (counts) {
            String name = ((VariableTree) tree.getInitializer().get(0)).getName().toString();
            String update = tree.getUpdate().get(0).toString().replace(";", "");
            String up = name + "++", down = name + "--";
            must(update.equals(up) || update.equals(down), "rule 9, no step by one", tree);
            String sign = update.equals(up) ? "<=?" : ">=?";
            must(tree.getCondition().toString().matches("(?s).*\\b" + name + " " + sign + " .*")
                && !tree.getCondition().toString().contains("||"), "rule 9, no bound", tree);
            must(!tree.getStatement().toString().matches("(?s).*\\b" + name + "(\\+\\+|--| [-+*/%^|&]?= ).*"),
                "rule 9, the counter is set within", tree);
        }
        return super.visitForLoop(tree, none);
    }

    // ---- rules 2, 3, 5, 12: classes, fields, types, objects

    @Override
    public Void visitClass(ClassTree tree, Void none) {
        Tree around = getCurrentPath().getParentPath().getLeaf();
        boolean outer = around instanceof CompilationUnitTree;
        must(outer || around instanceof ClassTree, "rule 2, a class within a method", tree);
        must(outer || tree.getModifiers().getFlags().contains(Modifier.STATIC), "rule 2, no static class", tree);
        if (element() instanceof TypeElement) classes.add((TypeElement) element());
        for (Tree member : tree.getMembers()) {
            must(!(member instanceof BlockTree), "rule 5, an initialiser block", member);
        }
        return super.visitClass(tree, none);
    }

    private boolean isNumber(TypeMirror type) {
        return type.getKind().isPrimitive() && type.getKind() != TypeKind.BOOLEAN;
    }

    private boolean mayBe(TypeMirror type) {
        if (type.getKind().isPrimitive()) return true;
        if (type.getKind() == TypeKind.ARRAY) {
            TypeMirror of = ((ArrayType) type).getComponentType();
            if (of.getKind() == TypeKind.ARRAY) return isNumber(((ArrayType) of).getComponentType());
            return of.getKind().isPrimitive() || isOwn(types.asElement(of));
        }
        return type.toString().equals("java.lang.String") || isOwn(types.asElement(type));
    }

    @Override
    public Void visitVariable(VariableTree tree, Void none) {
        Element element = element();
        must(mayBe(element.asType()), "rule 3, a type", tree);
        if (element.getModifiers().contains(Modifier.STATIC)) {
            must(element.getModifiers().contains(Modifier.FINAL), "rule 5, a static field that is not final", tree);
            boolean row = tree.getInitializer() instanceof NewArrayTree
                && ((NewArrayTree) tree.getInitializer()).getInitializers() != null;
            must(element.asType().getKind() != TypeKind.ARRAY || row, "rule 5, a row that is not written out", tree);
        }
        return super.visitVariable(tree, none);
    }

    @Override
    public Void visitNewArray(NewArrayTree tree, Void none) {
        must(!within(Tree.Kind.FOR_LOOP, Tree.Kind.ENHANCED_FOR_LOOP), "rule 12, a row made in a loop", tree);
        boolean fresh = methodAround() == null || elementOf(methodAround()).getKind() == ElementKind.CONSTRUCTOR;
        must(fresh, "the page, a row made behind the constructors", tree);
        for (ExpressionTree size : tree.getDimensions()) {
            String told = size.toString();
            must(told.matches("[A-Z_0-9 +*()]+"), "rule 7, a length that is no constant", tree);
        }
        return super.visitNewArray(tree, none);
    }

    @Override
    public Void visitNewClass(NewClassTree tree, Void none) {
        must(tree.getClassBody() == null, "rule 2, a class without a name", tree);
        must(!within(Tree.Kind.FOR_LOOP, Tree.Kind.ENHANCED_FOR_LOOP), "rule 12, an object made in a loop", tree);
        must(isOwn(element()), "rule 3, an object of the library", tree);
        noteCall(element(), false, false);
        for (ExpressionTree given : tree.getArguments()) must(!given.toString().equals("this"), "rule 12, this is handed out", tree);
        return super.visitNewClass(tree, none);
    }

    // ---- rules 4, 6, 7, 10: what is done with values

    @Override
    public Void visitBinary(BinaryTree tree, Void none) {
        String left = String.valueOf(typeOf(tree.getLeftOperand()));
        String right = String.valueOf(typeOf(tree.getRightOperand()));
        must(!left.equals("java.lang.String") && !right.equals("java.lang.String"), "rules 6, 10, texts joined or compared", tree);
        if (tree.getKind() == Tree.Kind.DIVIDE || tree.getKind() == Tree.Kind.REMAINDER) divides(tree.getRightOperand(), tree);
        return super.visitBinary(tree, none);
    }

    @Override
    public Void visitCompoundAssignment(CompoundAssignmentTree tree, Void none) {
        must(!String.valueOf(typeOf(tree.getVariable())).equals("java.lang.String"), "rule 10, texts joined", tree);
        boolean cuts = tree.getKind() == Tree.Kind.DIVIDE_ASSIGNMENT || tree.getKind() == Tree.Kind.REMAINDER_ASSIGNMENT;
        if (cuts) divides(tree.getExpression(), tree);
        return super.visitCompoundAssignment(tree, none);
    }

    /** A divisor is a constant, or the test that it is not 0 stands around it, in an if, a loop or a ?:. */
    private void divides(ExpressionTree divisor, Tree tree) {
        String told = divisor.toString();
        boolean safe = told.matches("[1-9][0-9]*|MILLION|ShootOut\\.TENS\\[i\\]|Math\\.max\\(1, \\w+\\)");
        String tests = "(?s).*\\b" + told + " (> 0|> 1|!= 0|== 0 \\?).*";
        for (TreePath at = getCurrentPath(); at != null && !safe && !(at.getLeaf() instanceof MethodTree); at = at.getParentPath()) {
            safe = told.matches("\\w+") && at.getLeaf().toString().matches(tests);
        }
        must(safe, "rule 7, a divisor that was not looked at", tree);
    }

    @Override
    public Void visitTypeCast(TypeCastTree tree, Void none) {
        must(typeOf(tree.getType()).getKind().isPrimitive(), "rule 6, a cast among classes", tree);
        return super.visitTypeCast(tree, none);
    }

    @Override
    public Void visitIdentifier(IdentifierTree tree, Void none) {
        named(element(), tree);
        return super.visitIdentifier(tree, none);
    }

    @Override
    public Void visitMemberSelect(MemberSelectTree tree, Void none) {
        boolean imports = within(Tree.Kind.IMPORT) || getCurrentPath().getParentPath().getLeaf().getKind() == Tree.Kind.IMPORT;
        if (!imports) named(element(), tree);
        return super.visitMemberSelect(tree, none);
    }

    private void named(Element element, Tree tree) {
        if (element == null || isOwn(element)) return;
        String name = element.getEnclosingElement() == null ? "" : element.getEnclosingElement().getSimpleName() + "." + element.getSimpleName();
        switch (element.getKind()) {
            case FIELD:
                must(element.getSimpleName().contentEquals("length") || name.equals("Long.MIN_VALUE"), "rule 4, a field", tree);
                break;
            case METHOD:
                must(LIBRARY.contains(name), "rule 4, " + name, tree);
                break;
            case CLASS: case INTERFACE: case ENUM:
                must(Set.of("String", "System", "Arrays", "Math", "Long", "Integer").contains(element.getSimpleName().toString()),
                    "rule 4, a class of the library", tree);
                break;
            default:
        }
    }

    // ---- rules 8, 11, 12: calls

    @Override
    public Void visitMethod(MethodTree tree, Void none) {
        calls.putIfAbsent(elementOf(tree), new ArrayList<>());
        return super.visitMethod(tree, none);
    }

    @Override
    public Void visitMethodInvocation(MethodInvocationTree tree, Void none) {
        ExpressionTree select = tree.getMethodSelect();
        ExecutableElement of = (ExecutableElement) element();
        boolean onSuper = select.toString().startsWith("super");
        boolean onSelf = onSuper || select instanceof IdentifierTree;
        if (isOwn(of)) noteCall(of, onSelf, onSuper);
        ExecutableElement by = elementOf(methodAround());
        boolean builds = by != null && by.getKind() == ElementKind.CONSTRUCTOR && onSelf && of.getKind() == ElementKind.METHOD;
        must(!builds || isSettled(of), "rule 12, a constructor calls what may be overridden", tree);
        for (ExpressionTree given : tree.getArguments()) {
            must(by == null || by.getKind() != ElementKind.CONSTRUCTOR || !given.toString().equals("this"),
                "rule 12, this is handed out", tree);
        }
        return super.visitMethodInvocation(tree, none);
    }

    private boolean isSettled(ExecutableElement of) {
        Set<Modifier> told = of.getModifiers();
        return told.contains(Modifier.STATIC) || told.contains(Modifier.PRIVATE) || told.contains(Modifier.FINAL)
            || of.getEnclosingElement().getModifiers().contains(Modifier.FINAL);
    }

    /** What stands in a field's initialiser is called by the constructor. */
    private void noteCall(Element of, boolean onSelf, boolean onSuper) {
        MethodTree around = methodAround();
        ExecutableElement by = around == null ? constructorAround() : elementOf(around);
        if (by != null && of instanceof ExecutableElement) {
            calls.computeIfAbsent(by, key -> new ArrayList<>()).add(new Call((ExecutableElement) of, onSelf, onSuper));
        }
    }

    private ExecutableElement constructorAround() {
        for (TreePath at = getCurrentPath(); at != null; at = at.getParentPath()) {
            if (!(at.getLeaf() instanceof ClassTree)) continue;
            for (Element member : trees.getElement(at).getEnclosedElements()) {
                if (member.getKind() == ElementKind.CONSTRUCTOR) return (ExecutableElement) member;
            }
        }
        return null;
    }

    private void callDepths() {
        must(loops > 20 && calls.size() > 100 && classes.size() > 5, "the trees were not seen", null);
        for (ExecutableElement method : new ArrayList<>(calls.keySet())) {
            if (!method.getModifiers().contains(Modifier.PUBLIC)) continue;
            int depth = depthOf(method, (TypeElement) method.getEnclosingElement());
            must(depth <= DEEPEST, "rule 11, calls " + depth + " deep from " + method, null);
        }
        Set<String> known = Set.of("parseEither", "parseBoth", "parseSingle", "placeNext", "placeKicker");
        must(turning.equals(known), "rule 8, recursion of " + turning, null);
    }

    /** How many calls stand open at once from a method on, of an object of a class; a recursion counts once. */
    private int depthOf(ExecutableElement method, TypeElement self) {
        String key = self.getSimpleName() + " " + method.getEnclosingElement().getSimpleName() + " " + method;
        Integer known = depths.get(key);
        if (known != null) return known;
        if (open.contains(key)) {
            noteTurning(key);
            return 0;
        }
        open.add(key);
        int deepest = 0;
        for (Call call : calls.getOrDefault(method, List.of())) {
            for (TypeElement receiver : receivers(call, self)) {
                ExecutableElement body = call.onSuper() ? call.of() : bodyOf(call.of(), receiver);
                deepest = Math.max(deepest, depthOf(body, receiver));
            }
        }
        open.remove(key);
        // Within a recursion the depth hangs on where it was entered, so that is not kept.
        if (open.isEmpty() || !isTurning(method)) depths.put(key, deepest + 1);
        return deepest + 1;
    }

    private boolean isTurning(ExecutableElement method) {
        return turning.contains(method.getSimpleName().toString());
    }

    private void noteTurning(String key) {
        boolean within = false;
        for (String at : open) {
            within = within || at.equals(key);
            if (within) turning.add(at.replaceAll(".* (\\w+)\\(.*", "$1"));
        }
        must(calls.keySet().stream().filter(this::isTurning).allMatch(m -> m.getModifiers().contains(Modifier.PRIVATE)),
            "rule 8, recursion of a method that is not private", null);
    }

    private List<TypeElement> receivers(Call call, TypeElement self) {
        TypeElement owner = (TypeElement) call.of().getEnclosingElement();
        if (call.onSelf() && types.isSubtype(self.asType(), owner.asType())) return List.of(self);
        if (isSettled(call.of()) || call.of().getKind() == ElementKind.CONSTRUCTOR) return List.of(owner);
        List<TypeElement> under = new ArrayList<>();
        for (TypeElement one : classes) if (types.isSubtype(one.asType(), owner.asType())) under.add(one);
        return under;
    }

    private ExecutableElement bodyOf(ExecutableElement of, TypeElement receiver) {
        for (TypeElement at = receiver; at != null; at = (TypeElement) types.asElement(at.getSuperclass())) {
            for (Element member : at.getEnclosedElements()) {
                if (member instanceof ExecutableElement && member.getKind() == ElementKind.METHOD && member.toString().equals(of.toString())) {
                    return (ExecutableElement) member;
                }
            }
        }
        return of;
    }
}
