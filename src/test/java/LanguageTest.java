import com.sun.source.tree.ArrayAccessTree;
import com.sun.source.tree.AssertTree;
import com.sun.source.tree.BinaryTree;
import com.sun.source.tree.BlockTree;
import com.sun.source.tree.ClassTree;
import com.sun.source.tree.CompoundAssignmentTree;
import com.sun.source.tree.DoWhileLoopTree;
import com.sun.source.tree.ExpressionTree;
import com.sun.source.tree.ForLoopTree;
import com.sun.source.tree.ImportTree;
import com.sun.source.tree.LambdaExpressionTree;
import com.sun.source.tree.LiteralTree;
import com.sun.source.tree.MemberReferenceTree;
import com.sun.source.tree.MemberSelectTree;
import com.sun.source.tree.MethodInvocationTree;
import com.sun.source.tree.MethodTree;
import com.sun.source.tree.NewArrayTree;
import com.sun.source.tree.NewClassTree;
import com.sun.source.tree.SynchronizedTree;
import com.sun.source.tree.ThrowTree;
import com.sun.source.tree.Tree;
import com.sun.source.tree.TryTree;
import com.sun.source.tree.TypeCastTree;
import com.sun.source.tree.VariableTree;
import com.sun.source.tree.WhileLoopTree;
import com.sun.source.util.TreePath;
import com.sun.source.util.TreePathScanner;
import java.io.IOException;
import java.nio.file.Path;
import java.util.HashSet;
import java.util.Map;
import java.util.Set;
import java.util.TreeMap;
import java.util.TreeSet;
import java.util.regex.Pattern;
import javax.lang.model.element.Element;
import javax.lang.model.element.ElementKind;
import javax.lang.model.element.ExecutableElement;
import javax.lang.model.element.Modifier;
import javax.lang.model.type.TypeKind;
import javax.lang.model.type.TypeMirror;

/**
 * LANGUAGE.md, rule by rule, as the compiler's trees of SlateRoof.java tell it; FaceTest holds rule 1. Where a rule
 * leaves more than SlateRoof needs (try, casts to classes, objects made by any method), less is asked for here, so
 * that a reader looks at it once more when it is first used.
 */
public final class LanguageTest extends TreePathScanner<Void, Void> {
    private static final int MOST_PARAMETERS = 7;
    private static final int MOST_LINES = 60;
    private static final int DEEPEST_CALLS = 8;
    private static final int MOST_CLASSES = 12;
    private static final int MOST_FIELDS = 20;

    private static final Set<String> EXCEPTIONS = Set.of("IllegalStateException", "IllegalArgumentException",
            "IndexOutOfBoundsException", "ArithmeticException", "UnsupportedOperationException",
            "NoSuchElementException", "RuntimeException");
    private static final Map<String, Set<String>> LIBRARY = Map.of(
            "java.lang.String", Set.of("length", "charAt", "isEmpty", "equals", "indexOf", "substring", "toCharArray"),
            "java.lang.StringBuilder", Set.of("append", "charAt", "setCharAt", "setLength", "deleteCharAt", "reverse",
                    "length", "toString"),
            "java.lang.Integer", Set.of("compare", "max", "min", "bitCount", "signum"),
            "java.lang.Long", Set.of("compare", "max", "min", "bitCount", "signum"),
            "java.lang.Math", Set.of("max", "min", "abs", "floorDiv", "floorMod"),
            "java.lang.System", Set.of("arraycopy"),
            "java.util.Arrays", Set.of("copyOf", "copyOfRange", "fill"));
    private static final Set<String> TEXTS = Set.of("java.lang.String", "java.lang.StringBuilder");

    private final Source source;
    private final Map<String, Set<String>> calls = new TreeMap<>();
    private int classes = 0;

    private LanguageTest(Source source) {
        this.source = source;
    }

    private void rule(int number, String what, boolean holds, Tree tree) {
        Check.same("rule " + number + ", line " + source.firstLine(tree) + ": " + what, holds, true);
    }

    private static boolean isOwn(Element element) {
        Element outer = element;
        while (outer != null && outer.getKind() != ElementKind.PACKAGE) {
            if (outer.toString().equals("SlateRoof")) {
                return true;
            }
            outer = outer.getEnclosingElement();
        }
        return false;
    }

    private static boolean isOwn(TypeMirror type) {
        return type.toString().equals("SlateRoof") || type.toString().startsWith("SlateRoof.");
    }

    /** Null for what stands in no method: a field's initialiser. */
    private MethodTree methodAround() {
        for (TreePath path = getCurrentPath(); path != null; path = path.getParentPath()) {
            if (path.getLeaf() instanceof MethodTree) {
                return (MethodTree) path.getLeaf();
            }
        }
        return null;
    }

    private boolean isInConstructor() {
        MethodTree method = methodAround();
        return method != null && method.getReturnType() == null;
    }

    private String textAround() {
        MethodTree method = methodAround();
        return method == null ? "" : source.textOf(method);
    }

    private boolean isSaidAround(String condition) {
        return Pattern.compile("(?<![\\w.])" + Pattern.quote(condition) + "\\b").matcher(textAround()).find();
    }

    private TypeMirror typeOf(Tree tree) {
        return source.typeAt(new TreePath(getCurrentPath(), tree));
    }

    private boolean isText(Tree tree) {
        return TEXTS.contains(typeOf(tree).toString());
    }

    @Override
    public Void visitImport(ImportTree tree, Void none) {
        String name = tree.getQualifiedIdentifier().toString();
        rule(4, "import " + name, name.matches("java\\.util\\.(ArrayList|List|Iterator|Arrays)"), tree);
        return super.visitImport(tree, none);
    }

    @Override
    public Void visitClass(ClassTree tree, Void none) {
        classes++;
        Set<Modifier> modifiers = tree.getModifiers().getFlags();
        boolean outer = getCurrentPath().getParentPath().getLeaf() == source.unit;
        rule(2, "a class inside is static", outer || modifiers.contains(Modifier.STATIC), tree);
        rule(6, "no class extends one of the library",
                tree.getExtendsClause() == null || isOwn(typeOf(tree.getExtendsClause())), tree);
        int fields = 0;
        for (Tree member : tree.getMembers()) {
            rule(5, "no static initialiser block", !(member instanceof BlockTree), member);
            if (member instanceof VariableTree
                    && !((VariableTree) member).getModifiers().getFlags().contains(Modifier.STATIC)) {
                fields++;
            }
        }
        rule(11, fields + " fields", fields <= MOST_FIELDS, tree);
        return super.visitClass(tree, none);
    }

    private static boolean isAllowedType(TypeMirror type) {
        String name = type.toString();
        String element = name.replace("[]", "");
        int dimensions = (name.length() - element.length()) / 2;
        boolean number = element.matches("int|long|short|byte|char|double|float");
        if (dimensions > 0) {
            return number && dimensions <= 2 || dimensions == 1 && (element.equals("boolean") || isOwn(element));
        }
        return type.getKind().isPrimitive() || type.getKind() == TypeKind.VOID || TEXTS.contains(name) || isOwn(element)
                || name.matches("java\\.util\\.(Array)?List<(SlateRoof\\.\\w+|java\\.lang\\.Integer)>");
    }

    private static boolean isOwn(String type) {
        return type.startsWith("SlateRoof.");
    }

    @Override
    public Void visitVariable(VariableTree tree, Void none) {
        TypeMirror type = typeOf(tree.getType());
        Set<Modifier> modifiers = tree.getModifiers().getFlags();
        boolean reference = !type.getKind().isPrimitive();
        rule(3, type + " " + tree.getName(), isAllowedType(type), tree);
        if (modifiers.contains(Modifier.STATIC)) {
            rule(5, tree.getName() + " is final", modifiers.contains(Modifier.FINAL), tree);
            rule(5, tree.getName() + " is a constant or a row of numbers written out",
                    !reference || type.toString().equals("java.lang.String") || isWrittenOut(tree), tree);
        } else if (methodAround() == null) {
            rule(7, tree.getName() + " is never null", !reference || modifiers.contains(Modifier.FINAL), tree);
        } else if (!(getCurrentPath().getParentPath().getLeaf() instanceof MethodTree)) {
            rule(7, tree.getName() + " is looked at against null",
                    !reference || isSaidAround(tree.getName() + " != null"), tree);
        }
        return super.visitVariable(tree, none);
    }

    private boolean isWrittenOut(VariableTree tree) {
        return tree.getInitializer() instanceof NewArrayTree
                && source.textOf(tree).matches("(?s).*= \\{[-0-9, \\s]+\\};?")
                && !Pattern.compile("\\b" + tree.getName() + "\\[").matcher(source.text).find();
    }

    @Override
    public Void visitMethod(MethodTree tree, Void none) {
        if (!source.isWritten(tree)) {
            return null;
        }
        rule(11, tree.getName() + " has parameters", tree.getParameters().size() <= MOST_PARAMETERS, tree);
        rule(11, tree.getName() + " is short", source.lastLine(tree) - source.firstLine(tree) < MOST_LINES, tree);
        rule(6, tree.getName() + " is a method of our own",
                !tree.getName().toString().matches("equals|hashCode|toString|finalize"), tree);
        if (tree.getReturnType() != null) {
            rule(3, "answer of " + tree.getName(), isAllowedType(typeOf(tree.getReturnType())), tree);
        }
        calls.computeIfAbsent(nameOf(source.elementAt(getCurrentPath())), key -> new TreeSet<>());
        return super.visitMethod(tree, none);
    }

    private static String nameOf(Element element) {
        return element.getEnclosingElement() + "." + element;
    }

    private void addCall(Element called) {
        Element caller = source.elementAt(TreePath.getPath(source.unit, methodAround()));
        calls.computeIfAbsent(nameOf(caller), key -> new TreeSet<>()).add(nameOf(called));
    }

    @Override
    public Void visitMethodInvocation(MethodInvocationTree tree, Void none) {
        if (!source.isWritten(tree) || tree.getMethodSelect().toString().equals("super")) {
            return null;
        }
        Element called = source.elementAt(getCurrentPath());
        if (isOwn(called)) {
            addCall(called);
        } else {
            rule(4, "call of " + nameOf(called), isInLibrary((ExecutableElement) called), tree);
        }
        return super.visitMethodInvocation(tree, none);
    }

    private static boolean isInLibrary(ExecutableElement called) {
        String owner = called.getEnclosingElement().toString();
        String name = called.getSimpleName().toString();
        boolean overDoubles = called.getParameters().stream()
                .anyMatch(parameter -> parameter.asType().toString().matches("double|float"));
        return !overDoubles && LIBRARY.getOrDefault(owner, Set.of()).contains(name);
    }

    @Override
    public Void visitNewClass(NewClassTree tree, Void none) {
        boolean thrown = getCurrentPath().getParentPath().getLeaf() instanceof ThrowTree;
        rule(2, "no anonymous class", tree.getClassBody() == null, tree);
        if (!thrown) {
            rule(4, "made: " + tree.getIdentifier(), isOwn(typeOf(tree)) || isOwn(typeOf(tree.getIdentifier())), tree);
            rule(12, "made in a constructor: " + tree.getIdentifier(), isInConstructor(), tree);
            if (methodAround() != null) {
                addCall(source.elementAt(getCurrentPath()));
            }
        }
        return super.visitNewClass(tree, none);
    }

    @Override
    public Void visitNewArray(NewArrayTree tree, Void none) {
        rule(12, "rows are made with the object", methodAround() == null || isInConstructor(), tree);
        for (ExpressionTree length : tree.getDimensions()) {
            rule(7, "the length " + length + " is a constant", length.toString().matches("[A-Z0-9_ +]+"), tree);
        }
        return super.visitNewArray(tree, none);
    }

    @Override
    public Void visitThrow(ThrowTree tree, Void none) {
        boolean made = tree.getExpression() instanceof NewClassTree;
        rule(6, "what is thrown is made there", made, tree);
        rule(6, "not thrown in a constructor", !isInConstructor(), tree);
        if (made) {
            NewClassTree exception = (NewClassTree) tree.getExpression();
            rule(6, "throws " + exception.getIdentifier(),
                    EXCEPTIONS.contains(exception.getIdentifier().toString()), tree);
            for (ExpressionTree argument : exception.getArguments()) {
                rule(6, "a written text", argument instanceof LiteralTree, tree);
            }
        }
        return super.visitThrow(tree, none);
    }

    @Override
    public Void visitTry(TryTree tree, Void none) {
        rule(6, "no try", false, tree);
        return super.visitTry(tree, none);
    }

    @Override
    public Void visitSynchronized(SynchronizedTree tree, Void none) {
        rule(6, "no synchronized", false, tree);
        return super.visitSynchronized(tree, none);
    }

    @Override
    public Void visitAssert(AssertTree tree, Void none) {
        rule(6, "no assert", false, tree);
        return super.visitAssert(tree, none);
    }

    @Override
    public Void visitLambdaExpression(LambdaExpressionTree tree, Void none) {
        rule(2, "no lambda", false, tree);
        return super.visitLambdaExpression(tree, none);
    }

    @Override
    public Void visitMemberReference(MemberReferenceTree tree, Void none) {
        rule(2, "no method reference", false, tree);
        return super.visitMemberReference(tree, none);
    }

    @Override
    public Void visitArrayAccess(ArrayAccessTree tree, Void none) {
        String index = tree.getIndex().toString();
        String row = tree.getExpression().toString();
        boolean plain = index.matches("\\w+");
        rule(7, index + " is looked at against the end of " + row,
                plain && isSaidAround(index + " < " + row + ".length"), tree);
        rule(7, index + " is not below 0 in " + row,
                plain && (isSaidAround(index + " >= 0") || isSaidAround("int " + index + " = 0")), tree);
        return super.visitArrayAccess(tree, none);
    }

    @Override
    public Void visitMemberSelect(MemberSelectTree tree, Void none) {
        ExpressionTree from = tree.getExpression();
        rule(7, "null was looked for: " + tree,
                !(from instanceof ArrayAccessTree) && !(from instanceof MethodInvocationTree), tree);
        return super.visitMemberSelect(tree, none);
    }

    @Override
    public Void visitTypeCast(TypeCastTree tree, Void none) {
        rule(7, "a cast to a number: " + tree, typeOf(tree.getType()).getKind().isPrimitive(), tree);
        return super.visitTypeCast(tree, none);
    }

    @Override
    public Void visitBinary(BinaryTree tree, Void none) {
        boolean text = isText(tree.getLeftOperand()) || isText(tree.getRightOperand());
        rule(10, "no text is joined or compared by a sign: " + tree, !text, tree);
        if (tree.getKind() == Tree.Kind.DIVIDE || tree.getKind() == Tree.Kind.REMAINDER) {
            looksAtDivisor(tree, tree.getRightOperand());
        }
        if (tree.getKind() == Tree.Kind.REMAINDER) {
            rule(3, "no rest of doubles: " + tree, !typeOf(tree).toString().matches("double|float"), tree);
        }
        return super.visitBinary(tree, none);
    }

    @Override
    public Void visitCompoundAssignment(CompoundAssignmentTree tree, Void none) {
        rule(10, "no text is joined by a sign: " + tree, !isText(tree.getVariable()), tree);
        if (tree.getKind() == Tree.Kind.DIVIDE_ASSIGNMENT || tree.getKind() == Tree.Kind.REMAINDER_ASSIGNMENT) {
            looksAtDivisor(tree, tree.getExpression());
        }
        return super.visitCompoundAssignment(tree, none);
    }

    private void looksAtDivisor(Tree tree, ExpressionTree divisor) {
        String name = divisor instanceof TypeCastTree ? ((TypeCastTree) divisor).getExpression().toString()
                : divisor.toString();
        boolean constant = name.matches("[1-9][0-9.]*|[A-Z][A-Z_]*");
        rule(7, "the divisor " + name + " is looked at",
                constant || isSaidAround(name + " > 0") || isSaidAround(name + " <= 0"), tree);
    }

    @Override
    public Void visitForLoop(ForLoopTree tree, Void none) {
        rule(9, "the loop counts against a bound", !tree.getUpdate().isEmpty() && tree.getCondition() != null
                && tree.getCondition().toString().matches(".*[<>].*"), tree);
        return super.visitForLoop(tree, none);
    }

    @Override
    public Void visitWhileLoop(WhileLoopTree tree, Void none) {
        endsByItself(tree, tree.getCondition());
        return super.visitWhileLoop(tree, none);
    }

    @Override
    public Void visitDoWhileLoop(DoWhileLoopTree tree, Void none) {
        endsByItself(tree, tree.getCondition());
        return super.visitDoWhileLoop(tree, none);
    }

    private void endsByItself(Tree loop, ExpressionTree condition) {
        String counter = condition.toString().replaceAll("(?s)^\\((\\w+) < .*$", "$1");
        rule(9, "the loop counts " + counter + " against a bound",
                counter.matches("\\w+") && source.textOf(loop).contains(counter + "++;"), loop);
    }

    /** How many calls stand open at once, this one too. */
    private int depthOf(String method, Set<String> open) {
        Check.same("rule 8: " + method + " does not call itself", open.contains(method), false);
        if (open.contains(method)) {
            return 0;
        }
        open.add(method);
        int deepest = 0;
        for (String called : calls.getOrDefault(method, Set.of())) {
            deepest = Math.max(deepest, depthOf(called, open));
        }
        open.remove(method);
        return deepest + 1;
    }

    private void looksAtTheWhole() {
        for (String method : calls.keySet()) {
            int depth = depthOf(method, new HashSet<>());
            Check.same("rule 11: calls of " + method + ", " + depth + " deep", depth <= DEEPEST_CALLS, true);
        }
        Check.same("rule 11: " + classes + " classes", classes <= MOST_CLASSES, true);
        Check.same("one file without a package", source.unit.getPackageName() == null, true);
        for (char sign : source.text.toCharArray()) {
            Check.same("rule 4: the sign " + (int) sign, sign == '\n' || sign >= 32 && sign < 127, true);
        }
    }

    /** With a path, that file is looked at in the place of the class. */
    public static void main(String[] args) throws IOException {
        Source source = new Source(Path.of(args.length > 0 ? args[0] : "src/main/java/SlateRoof.java"));
        LanguageTest test = new LanguageTest(source);
        test.scan(source.unit, null);
        test.looksAtTheWhole();
        Check.end("LanguageTest");
    }
}
