import com.sun.source.tree.*;
import com.sun.source.util.JavacTask;
import com.sun.source.util.TreePath;
import com.sun.source.util.TreePathScanner;
import com.sun.source.util.Trees;
import java.net.URI;
import java.util.ArrayList;
import java.util.HashMap;
import java.util.LinkedHashSet;
import java.util.List;
import java.util.Map;
import java.util.Set;
import javax.lang.model.element.Element;
import javax.lang.model.element.ElementKind;
import javax.lang.model.element.ExecutableElement;
import javax.lang.model.element.Modifier;
import javax.lang.model.element.TypeElement;
import javax.lang.model.element.VariableElement;
import javax.lang.model.type.ArrayType;
import javax.lang.model.type.DeclaredType;
import javax.lang.model.type.TypeKind;
import javax.lang.model.type.TypeMirror;
import javax.tools.JavaFileObject;
import javax.tools.SimpleJavaFileObject;
import javax.tools.ToolProvider;

/** Holds a program, as the compiler understands it, against those rules of LANGUAGE.md that can be seen in a text. */
final class Rules extends TreePathScanner<Void, Void> {
    private static final int PARAMETERS = 7, LINES = 60, DEEP = 8, CLASSES = 12, FIELDS = 20;
    private static final Set<String> OF_STRING = Set.of("length()", "charAt(int)", "isEmpty()", "equals(java.lang.Object)",
        "indexOf(int)", "substring(int)", "substring(int,int)", "toCharArray()", "<init>(char[])");
    private static final Set<String> OF_BUILDER = Set.of("<init>()", "append(char)", "append(java.lang.String)", "append(int)",
        "charAt(int)", "setCharAt(int,char)", "setLength(int)", "deleteCharAt(int)", "reverse()", "length()", "toString()");
    private static final Set<String> OF_LIST = Set.of("<init>()", "add(E)", "add(int,E)", "get(int)", "set(int,E)",
        "remove(int)", "size()", "isEmpty()", "clear()");
    private static final Set<String> NUMBERS = Set.of("int", "long", "boolean");

    private final List<String> breaches = new ArrayList<>();
    private final Map<String, Set<String>> calls = new HashMap<>();
    private final Set<String> loose = new LinkedHashSet<>();
    private Trees trees;
    private CompilationUnitTree unit;
    private int classes;

    /** The breaches of a program's text, each with its rule's number ahead. */
    static List<String> breaches(String source) throws Exception {
        Rules rules = new Rules();
        JavaFileObject file = new SimpleJavaFileObject(URI.create("string:///WrackDeeds.java"), JavaFileObject.Kind.SOURCE) {
            @Override public CharSequence getCharContent(boolean ignoreErrors) { return source; }
        };
        JavacTask task = (JavacTask) ToolProvider.getSystemJavaCompiler().getTask(null, null,
            d -> { if (d.getKind() == javax.tools.Diagnostic.Kind.ERROR) rules.breaches.add("0: " + d); }, List.of("-proc:none"), null, List.of(file));
        rules.trees = Trees.instance(task);
        rules.unit = task.parse().iterator().next();
        task.analyze();
        rules.scan(rules.unit, null);
        rules.breachIf(rules.unit.getPackage() != null, 1, "a package line");
        rules.lookAtCalls();
        return rules.breaches;
    }

    private void breach(int rule, String what) {
        long at = getCurrentPath() == null ? 0 : unit.getLineMap().getLineNumber(
            Math.max(0, trees.getSourcePositions().getStartPosition(unit, getCurrentPath().getLeaf())));
        breaches.add(rule + ": " + what + (at > 0 ? ", line " + at : ""));
    }

    private void breachIf(boolean so, int rule, String what) {
        if (so) breach(rule, what);
    }

    // ---- classes and members

    @Override public Void visitClass(ClassTree t, Void v) {
        Tree parent = getCurrentPath().getParentPath().getLeaf();
        classes++;
        breachIf(classes == CLASSES + 1, 11, "more than twelve classes");
        if (parent instanceof ClassTree) {
            boolean isStatic = trees.getElement(getCurrentPath()).getModifiers().contains(Modifier.STATIC);
            breachIf(!isStatic, 2, "an inner class");
        } else {
            breachIf(!(parent instanceof CompilationUnitTree), 2, "a local class");
            breachIf(parent instanceof CompilationUnitTree && classes > 1, 1, "a second class outside");
        }
        int fields = 0;
        for (Tree member : t.getMembers()) {
            if (member instanceof VariableTree f && !f.getModifiers().getFlags().contains(Modifier.STATIC)) fields++;
        }
        breachIf(fields > FIELDS, 11, "more than twenty fields");
        return super.visitClass(t, v);
    }

    @Override public Void visitMethod(MethodTree t, Void v) {
        breachIf(t.getParameters().size() > PARAMETERS, 11, t.getName() + " takes more than seven");
        long end = trees.getSourcePositions().getEndPosition(unit, t);
        if (end > 0) {
            long lines = unit.getLineMap().getLineNumber(end) - unit.getLineMap().getLineNumber(trees.getSourcePositions().getStartPosition(unit, t));
            breachIf(lines > LINES, 11, t.getName() + " is long");
        }
        Element e = trees.getElement(getCurrentPath());
        boolean guarded = t.getParameters().stream().anyMatch(p -> p.getName().contentEquals("depth"));
        if (!guarded || !e.getModifiers().contains(Modifier.PRIVATE)) loose.add(nameOf(e));
        calls.computeIfAbsent(nameOf(e), k -> new LinkedHashSet<>());
        return super.visitMethod(t, v);
    }

    @Override public Void visitVariable(VariableTree t, Void v) {
        Element e = trees.getElement(getCurrentPath());
        lookAtType(e.asType());
        if (e.getKind() == ElementKind.FIELD && e.getModifiers().contains(Modifier.STATIC)) lookAtStatic(t, e);
        return super.visitVariable(t, v);
    }

    private void lookAtStatic(VariableTree t, Element e) {
        breachIf(!e.getModifiers().contains(Modifier.FINAL), 5, t.getName() + " is not final");
        if (e.asType() instanceof ArrayType a) {
            boolean numbers = Set.of("int", "long", "char", "byte").contains(a.getComponentType().toString());
            breachIf(!numbers || !(t.getInitializer() instanceof NewArrayTree n) || n.getInitializers() == null, 5, t.getName() + " is not written out");
        } else {
            breachIf(!Set.of("int", "long", "boolean", "char", "java.lang.String").contains(e.asType().toString()), 5, t.getName() + " is no constant");
        }
    }

    @Override public Void visitBlock(BlockTree t, Void v) {
        breachIf(t.isStatic(), 5, "a static block");
        return super.visitBlock(t, v);
    }

    private void lookAtType(TypeMirror type) {
        if (type instanceof ArrayType a) {
            boolean two = a.getComponentType() instanceof ArrayType b && b.getComponentType().getKind().isPrimitive();
            breachIf(a.getComponentType() instanceof ArrayType && !two, 3, "an array of arrays");
            if (!two) lookAtType(a.getComponentType());
        } else if (type instanceof DeclaredType d && !isOwn(d.asElement())) {
            boolean known = Set.of("String", "StringBuilder", "Integer", "ArrayList", "List").contains(d.asElement().getSimpleName().toString());
            breachIf(!known, 3, "a " + type);
        }
    }

    // ---- what stands in methods

    @Override public Void visitLiteral(LiteralTree t, Void v) {
        breachIf(t.getValue() instanceof String s && !s.chars().allMatch(c -> c >= 1 && c <= 127), 4, "a sign beyond 1 to 127");
        return super.visitLiteral(t, v);
    }

    @Override public Void visitLambdaExpression(LambdaExpressionTree t, Void v) { breach(2, "a lambda"); return super.visitLambdaExpression(t, v); }
    @Override public Void visitMemberReference(MemberReferenceTree t, Void v) { breach(2, "a method reference"); return super.visitMemberReference(t, v); }
    @Override public Void visitThrow(ThrowTree t, Void v) { breach(6, "throw"); return super.visitThrow(t, v); }
    @Override public Void visitTry(TryTree t, Void v) { breach(6, "try"); return super.visitTry(t, v); }
    @Override public Void visitSynchronized(SynchronizedTree t, Void v) { breach(6, "synchronized"); return super.visitSynchronized(t, v); }
    @Override public Void visitAssert(AssertTree t, Void v) { breach(6, "assert"); return super.visitAssert(t, v); }
    @Override public Void visitWhileLoop(WhileLoopTree t, Void v) { lookAtEnd(t.getCondition()); return super.visitWhileLoop(t, v); }
    @Override public Void visitDoWhileLoop(DoWhileLoopTree t, Void v) { lookAtEnd(t.getCondition()); return super.visitDoWhileLoop(t, v); }
    @Override public Void visitForLoop(ForLoopTree t, Void v) { lookAtEnd(t.getCondition()); return super.visitForLoop(t, v); }

    private void lookAtEnd(ExpressionTree condition) {
        ExpressionTree bare = condition;
        while (bare instanceof ParenthesizedTree p) bare = p.getExpression();
        breachIf(bare == null || bare instanceof LiteralTree, 9, "a loop without an end");
    }

    @Override public Void visitBinary(BinaryTree t, Void v) {
        String type = String.valueOf(trees.getTypeMirror(getCurrentPath()));
        breachIf(t.getKind() == Tree.Kind.PLUS && type.equals("java.lang.String"), 10, "texts joined by +");
        if (t.getKind() == Tree.Kind.EQUAL_TO || t.getKind() == Tree.Kind.NOT_EQUAL_TO) {
            String left = String.valueOf(trees.getTypeMirror(new TreePath(getCurrentPath(), t.getLeftOperand())));
            String right = String.valueOf(trees.getTypeMirror(new TreePath(getCurrentPath(), t.getRightOperand())));
            breachIf(left.equals(right) && (left.equals("java.lang.String") || left.equals("java.lang.Integer")), 6, "== between texts");
        }
        return super.visitBinary(t, v);
    }

    @Override public Void visitCompoundAssignment(CompoundAssignmentTree t, Void v) {
        breachIf(String.valueOf(trees.getTypeMirror(getCurrentPath())).equals("java.lang.String"), 10, "texts joined by +=");
        return super.visitCompoundAssignment(t, v);
    }

    @Override public Void visitMemberSelect(MemberSelectTree t, Void v) {
        Element e = trees.getElement(getCurrentPath());
        breachIf(e instanceof VariableElement && !isOwn(e) && !t.getIdentifier().contentEquals("length"), 4, "the library's " + t);
        return super.visitMemberSelect(t, v);
    }

    @Override public Void visitMethodInvocation(MethodInvocationTree t, Void v) {
        call(trees.getElement(getCurrentPath()));
        return super.visitMethodInvocation(t, v);
    }

    @Override public Void visitNewClass(NewClassTree t, Void v) {
        breachIf(t.getClassBody() != null, 2, "an anonymous class");
        call(trees.getElement(getCurrentPath()));
        return super.visitNewClass(t, v);
    }

    private void call(Element called) {
        if (!(called instanceof ExecutableElement e)) return;
        boolean implied = e.getKind() == ElementKind.CONSTRUCTOR && e.getEnclosingElement().toString().equals("java.lang.Object");
        if (implied) return;
        breachIf(!isOwn(e) && !isListed(e), 4, "the library's " + nameOf(e));
        calls.computeIfAbsent(caller(), k -> new LinkedHashSet<>()).add(nameOf(e));
    }

    /** The method in which the scan is; what stands in a field's initialiser is the constructor's. */
    private String caller() {
        for (TreePath p = getCurrentPath(); p != null; p = p.getParentPath()) {
            if (p.getLeaf() instanceof MethodTree) return nameOf(trees.getElement(p));
            if (p.getLeaf() instanceof ClassTree) {
                for (Element e : trees.getElement(p).getEnclosedElements()) if (e.getKind() == ElementKind.CONSTRUCTOR) return nameOf(e);
            }
        }
        return "";
    }

    private static String nameOf(Element e) { return e.getEnclosingElement() + "." + e; }

    private static boolean isOwn(Element e) {
        Element top = e;
        while (top.getEnclosingElement() != null && top.getEnclosingElement().getKind() != ElementKind.PACKAGE) top = top.getEnclosingElement();
        return top.getSimpleName().contentEquals("WrackDeeds") || e.asType().getKind() == TypeKind.TYPEVAR;
    }

    private static boolean isListed(ExecutableElement e) {
        String sign = e.getSimpleName() + "(" + String.join(",", e.getParameters().stream().map(p -> p.asType().toString()).toList()) + ")";
        String name = e.getSimpleName().toString();
        switch (((TypeElement) e.getEnclosingElement()).getQualifiedName().toString()) {
            case "java.lang.String": return OF_STRING.contains(sign);
            case "java.lang.StringBuilder": case "java.lang.AbstractStringBuilder": return OF_BUILDER.contains(sign);
            case "java.util.ArrayList": case "java.util.List": return OF_LIST.contains(sign) || name.equals("of");
            case "java.lang.System": return name.equals("arraycopy");
            case "java.util.Arrays": return Set.of("copyOf", "copyOfRange", "fill").contains(name);
            case "java.lang.Object": return name.equals("clone");
            case "java.lang.Math": case "java.lang.Integer": case "java.lang.Long": return isOverNumbers(e) && !name.endsWith("Exact");
            default: return false;
        }
    }

    private static boolean isOverNumbers(ExecutableElement e) {
        return e.getModifiers().contains(Modifier.STATIC) && NUMBERS.contains(e.getReturnType().toString())
            && e.getParameters().stream().allMatch(p -> NUMBERS.contains(p.asType().toString()));
    }

    // ---- calls in calls

    private void lookAtCalls() {
        for (String method : calls.keySet()) {
            List<String> way = deepest(method, new ArrayList<>());
            if (way.size() > DEEP) breaches.add("11: " + way.size() + " deep: " + String.join(" > ", way));
            if (loose.contains(method) && comesBack(method, method, new LinkedHashSet<>())) breaches.add("8: " + method + " comes back to itself");
        }
    }

    /** The longest row of calls from a method on, the library's too; one that comes back to itself counts once. */
    private List<String> deepest(String method, List<String> open) {
        List<String> best = List.of();
        open.add(method);
        for (String next : calls.getOrDefault(method, Set.of())) {
            if (open.contains(next)) continue;
            List<String> way = deepest(next, open);
            if (way.size() > best.size()) best = way;
        }
        open.remove(open.size() - 1);
        List<String> all = new ArrayList<>(List.of(method));
        all.addAll(best);
        return all;
    }

    private boolean comesBack(String from, String to, Set<String> met) {
        for (String next : calls.getOrDefault(from, Set.of())) {
            if (next.equals(to) || met.add(next) && comesBack(next, to, met)) return true;
        }
        return false;
    }
}
