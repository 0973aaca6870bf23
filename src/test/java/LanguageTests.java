import com.sun.source.tree.AssertTree;
import com.sun.source.tree.BinaryTree;
import com.sun.source.tree.BlockTree;
import com.sun.source.tree.ClassTree;
import com.sun.source.tree.CompilationUnitTree;
import com.sun.source.tree.DoWhileLoopTree;
import com.sun.source.tree.ExpressionTree;
import com.sun.source.tree.ForLoopTree;
import com.sun.source.tree.IdentifierTree;
import com.sun.source.tree.ImportTree;
import com.sun.source.tree.LambdaExpressionTree;
import com.sun.source.tree.LiteralTree;
import com.sun.source.tree.MemberReferenceTree;
import com.sun.source.tree.MemberSelectTree;
import com.sun.source.tree.MethodTree;
import com.sun.source.tree.NewArrayTree;
import com.sun.source.tree.NewClassTree;
import com.sun.source.tree.SynchronizedTree;
import com.sun.source.tree.ThrowTree;
import com.sun.source.tree.Tree;
import com.sun.source.tree.TryTree;
import com.sun.source.tree.TypeCastTree;
import com.sun.source.tree.VariableTree;
import com.sun.source.tree.WhileLoopTree;
import com.sun.source.util.JavacTask;
import com.sun.source.util.SourcePositions;
import com.sun.source.util.TreePath;
import com.sun.source.util.TreePathScanner;
import com.sun.source.util.TreeScanner;
import com.sun.source.util.Trees;
import java.io.IOException;
import java.nio.file.Files;
import java.nio.file.Path;
import java.util.ArrayList;
import java.util.HashSet;
import java.util.LinkedHashMap;
import java.util.LinkedHashSet;
import java.util.List;
import java.util.Map;
import java.util.Set;
import java.util.TreeSet;
import java.util.regex.Matcher;
import java.util.regex.Pattern;
import javax.lang.model.element.Element;
import javax.lang.model.element.ElementKind;
import javax.lang.model.element.ExecutableElement;
import javax.lang.model.element.Modifier;
import javax.lang.model.element.TypeElement;
import javax.lang.model.element.VariableElement;
import javax.lang.model.type.ArrayType;
import javax.lang.model.type.DeclaredType;
import javax.lang.model.type.TypeKind;
import javax.lang.model.type.TypeMirror;
import javax.tools.JavaCompiler;
import javax.tools.ToolProvider;

/** What of LANGUAGE.md can be seen from the source as the compiler reads it; a row names the rule's number. */
public final class LanguageTests extends TreePathScanner<Void, Void> {
    private static final Path SOURCE = Path.of("src/main/java/SleepersPay.java");
    private static final Path DOCUMENT = Path.of("../shared/DOC.md");
    /** What of rule 4's list the class uses; another call of that list is to be put here. */
    private static final Set<String> LIBRARY = Set.of("Object.<init>", "String.length", "String.charAt",
        "Integer.bitCount", "Math.abs", "Math.floorMod", "Math.max", "Math.min", "System.arraycopy");
    private static final Set<String> CONSTANTS = Set.of("int", "long", "boolean", "char", "java.lang.String");
    private static final Set<String> TABLES = Set.of("int[]", "long[]", "char[]", "byte[]");
    private static final int MOST_LINES = 60;
    private static final int MOST_PARAMETERS = 7;
    private static final int MOST_CLASSES = 12;
    private static final int MOST_FIELDS = 20;
    private static final int MOST_DEEP = 8;

    private final Trees trees;
    private final CompilationUnitTree unit;
    private final Map<ExecutableElement, Set<ExecutableElement>> calls = new LinkedHashMap<>();
    private int wrong = 0;
    private int classes = 0;

    private LanguageTests(Trees trees, CompilationUnitTree unit) {
        this.trees = trees;
        this.unit = unit;
    }

    public static void main(String[] args) throws IOException {
        JavaCompiler compiler = ToolProvider.getSystemJavaCompiler();
        var files = compiler.getStandardFileManager(null, null, null);
        JavacTask task = (JavacTask) compiler.getTask(null, files, null, List.of("-proc:none"), null,
            files.getJavaFileObjects(SOURCE));
        CompilationUnitTree unit = task.parse().iterator().next();
        task.analyze();
        LanguageTests tests = new LanguageTests(Trees.instance(task), unit);
        tests.run();
        System.out.println("LanguageTests: " + (tests.wrong == 0 ? "all is as due" : tests.wrong + " wrong"));
        if (tests.wrong != 0) {
            System.exit(1);
        }
    }

    private void run() throws IOException {
        check(unit.getPackageName() == null, unit, "a package line");
        check(unit.getTypeDecls().size() == 1, unit, "rule 1: one class in the file");
        scan(unit, null);
        check(calls.size() > 100, unit, "only " + calls.size() + " methods seen");
        check(classes <= MOST_CLASSES, unit, "rule 11: " + classes + " classes");
        depths();
        face();
    }

    private void check(boolean holds, Tree where, String what) {
        if (!holds) {
            wrong++;
            SourcePositions places = trees.getSourcePositions();
            System.out.println("line " + unit.getLineMap().getLineNumber(places.getStartPosition(unit, where)) + ": " + what);
        }
    }

    private Element here() {
        return trees.getElement(getCurrentPath());
    }

    private TypeMirror typeOf(Tree tree) {
        return trees.getTypeMirror(new TreePath(getCurrentPath(), tree));
    }

    private static boolean isOwn(Element element) {
        for (Element e = element; e != null; e = e.getEnclosingElement()) {
            if (e.getSimpleName().contentEquals("SleepersPay")) {
                return true;
            }
        }
        return false;
    }

    private static boolean isText(TypeMirror type) {
        return type != null && (type.toString().equals("java.lang.String") || type.toString().equals("java.lang.Integer"));
    }

    // ---- rules 1, 2, 11: classes

    @Override
    public Void visitClass(ClassTree tree, Void nothing) {
        classes++;
        TypeElement element = (TypeElement) here();
        Set<Modifier> how = element.getModifiers();
        boolean outer = element.getEnclosingElement().getKind() == ElementKind.PACKAGE;
        if (outer) {
            check(how.contains(Modifier.PUBLIC) && how.contains(Modifier.FINAL), tree, "rule 1: public and final");
        } else {
            check(element.getEnclosingElement().getKind() == ElementKind.CLASS, tree, "rule 2: a local class");
            check(how.contains(Modifier.STATIC), tree, "rule 2: not static");
            check(!how.contains(Modifier.PUBLIC) && !how.contains(Modifier.PROTECTED), tree, "rule 1: to be seen");
        }
        int fields = 0;
        for (Element member : element.getEnclosedElements()) {
            fields += member.getKind() == ElementKind.FIELD && !member.getModifiers().contains(Modifier.STATIC) ? 1 : 0;
        }
        check(fields <= MOST_FIELDS, tree, "rule 11: " + fields + " fields");
        for (Tree member : tree.getMembers()) {
            check(!(member instanceof BlockTree), member, "rule 5: an initialiser block");
        }
        return super.visitClass(tree, nothing);
    }

    // ---- rules 3, 5: variables

    @Override
    public Void visitVariable(VariableTree tree, Void nothing) {
        VariableElement element = (VariableElement) here();
        check(isKnown(element.asType()), tree, "rule 3: " + element.asType());
        if (element.getKind() == ElementKind.FIELD && element.getModifiers().contains(Modifier.STATIC)) {
            boolean constant = element.getConstantValue() != null && CONSTANTS.contains(element.asType().toString());
            boolean table = TABLES.contains(element.asType().toString()) && tree.getInitializer() instanceof NewArrayTree;
            check(element.getModifiers().contains(Modifier.FINAL) && (constant || table), tree, "rule 5: " + element);
        }
        return super.visitVariable(tree, nothing);
    }

    /** Whole numbers, texts, own classes, and arrays of one dimension of these but texts. */
    private static boolean isKnown(TypeMirror type) {
        if (type.getKind() == TypeKind.ARRAY) {
            TypeMirror of = ((ArrayType) type).getComponentType();
            return of.getKind().isPrimitive() ? isKnown(of) : of.getKind() == TypeKind.DECLARED && isOwnType(of);
        }
        if (type.getKind() == TypeKind.DECLARED) {
            return isOwnType(type) || type.toString().equals("java.lang.String");
        }
        return type.getKind().isPrimitive() && type.getKind() != TypeKind.DOUBLE && type.getKind() != TypeKind.FLOAT;
    }

    private static boolean isOwnType(TypeMirror type) {
        return isOwn(((DeclaredType) type).asElement());
    }

    // ---- rules 8, 11: methods and what they call

    @Override
    public Void visitMethod(MethodTree tree, Void nothing) {
        calls.computeIfAbsent((ExecutableElement) here(), e -> new LinkedHashSet<>());
        check(tree.getParameters().size() <= MOST_PARAMETERS, tree, "rule 11: parameters of " + tree.getName());
        check(tree.getThrows().isEmpty(), tree, "rule 6: throws of " + tree.getName());
        SourcePositions places = trees.getSourcePositions();
        long from = unit.getLineMap().getLineNumber(places.getStartPosition(unit, tree));
        long to = places.getEndPosition(unit, tree) < 0 ? from
            : unit.getLineMap().getLineNumber(places.getEndPosition(unit, tree));
        check(to - from < MOST_LINES, tree, "rule 11: lines of " + tree.getName());
        return super.visitMethod(tree, nothing);
    }

    @Override
    public Void visitIdentifier(IdentifierTree tree, Void nothing) {
        used(tree);
        return super.visitIdentifier(tree, nothing);
    }

    @Override
    public Void visitMemberSelect(MemberSelectTree tree, Void nothing) {
        used(tree);
        return super.visitMemberSelect(tree, nothing);
    }

    @Override
    public Void visitNewClass(NewClassTree tree, Void nothing) {
        check(tree.getClassBody() == null, tree, "rule 2: a class without a name");
        used(tree);
        return super.visitNewClass(tree, nothing);
    }

    /** A method or constructor is one of the class's own, or of the library's few. */
    private void used(Tree tree) {
        if (!(here() instanceof ExecutableElement target)) {
            return;
        }
        if (!isOwn(target)) {
            String name = target.getEnclosingElement().getSimpleName() + "." + target.getSimpleName();
            check(LIBRARY.contains(name), tree, "rule 4: " + name);
            return;
        }
        TreePath path = getCurrentPath();
        while (path != null && !(path.getLeaf() instanceof MethodTree)) {
            path = path.getParentPath();
        }
        if (path != null && trees.getElement(path) instanceof ExecutableElement caller) {
            calls.computeIfAbsent(caller, e -> new LinkedHashSet<>()).add(target);
        }
    }

    /** From each call of the face no way down goes deeper, a method that calls itself counted once. */
    private void depths() {
        for (ExecutableElement start : calls.keySet()) {
            if (start.getModifiers().contains(Modifier.PUBLIC)) {
                List<String> way = deepest(start, new LinkedHashSet<>());
                check(way.size() <= MOST_DEEP, trees.getTree(start), "rule 11: " + way.size() + " deep: " + way);
            }
            if (reaches(start, start, new HashSet<>())) {
                boolean guarded = start.getParameters().stream().anyMatch(p -> p.getSimpleName().contentEquals("depth"));
                check(guarded, trees.getTree(start), "rule 8: " + start + " carries no depth");
            }
        }
    }

    private List<String> deepest(ExecutableElement from, Set<ExecutableElement> open) {
        open.add(from);
        List<String> below = List.of();
        for (ExecutableElement next : calls.getOrDefault(from, Set.of())) {
            if (!open.contains(next)) {
                List<String> way = deepest(next, open);
                below = way.size() > below.size() ? way : below;
            }
        }
        open.remove(from);
        List<String> way = new ArrayList<>(List.of(from.getSimpleName().toString()));
        way.addAll(below);
        return way;
    }

    private boolean reaches(ExecutableElement from, ExecutableElement to, Set<ExecutableElement> seen) {
        for (ExecutableElement next : calls.getOrDefault(from, Set.of())) {
            if (next.equals(to) || seen.add(next) && reaches(next, to, seen)) {
                return true;
            }
        }
        return false;
    }

    // ---- rule 1: the face, as the document has it

    private void face() throws IOException {
        Matcher line = Pattern.compile("(?m)^    (public .*);$").matcher(Files.readString(DOCUMENT));
        Set<String> due = new TreeSet<>();
        while (line.find()) {
            due.add(line.group(1));
        }
        Set<String> is = new TreeSet<>();
        Set<String> hidden = new TreeSet<>();
        ClassTree outer = (ClassTree) unit.getTypeDecls().get(0);
        for (Element member : trees.getElement(new TreePath(new TreePath(unit), outer)).getEnclosedElements()) {
            boolean seen = member.getModifiers().contains(Modifier.PUBLIC);
            boolean kept = member.getModifiers().contains(Modifier.PRIVATE) || member instanceof TypeElement;
            check(seen || kept, trees.getTree(member), "rule 1: " + member + " is neither public nor private");
            if (seen) {
                is.add(told(member));
            }
        }
        check(due.size() == 30 && is.equals(due), outer, "rule 1: the face is " + is + ", due is " + due);
        for (ExecutableElement method : calls.keySet()) {
            if (!method.getModifiers().contains(Modifier.PUBLIC)) {
                hidden.add(" " + method.getSimpleName() + "(");
            }
        }
        for (String name : hidden) {
            check(is.stream().noneMatch(s -> s.contains(name)), outer, "rule 1:" + name + " is a public name too");
        }
    }

    private static String told(Element member) {
        StringBuilder s = new StringBuilder("public ");
        if (member instanceof VariableElement field) {
            return s.append("static final ").append(field.asType()).append(' ').append(field.getSimpleName())
                .append(" = ").append(field.getConstantValue()).toString();
        }
        ExecutableElement method = (ExecutableElement) member;
        boolean makes = method.getKind() == ElementKind.CONSTRUCTOR;
        s.append(makes ? "SleepersPay" : method.getReturnType() + " " + method.getSimpleName()).append('(');
        for (VariableElement p : method.getParameters()) {
            s.append(s.charAt(s.length() - 1) == '(' ? "" : ", ").append(p.asType()).append(' ').append(p.getSimpleName());
        }
        return s.append(')').toString();
    }

    // ---- rules 2, 4, 6, 9, 10: what is written in methods

    @Override
    public Void visitLambdaExpression(LambdaExpressionTree tree, Void nothing) {
        check(false, tree, "rule 2: a lambda");
        return super.visitLambdaExpression(tree, nothing);
    }

    @Override
    public Void visitMemberReference(MemberReferenceTree tree, Void nothing) {
        check(false, tree, "rule 2: a method reference");
        return super.visitMemberReference(tree, nothing);
    }

    @Override
    public Void visitImport(ImportTree tree, Void nothing) {
        check(false, tree, "rule 4: an import");
        return super.visitImport(tree, nothing);
    }

    @Override
    public Void visitThrow(ThrowTree tree, Void nothing) {
        check(false, tree, "rule 6: throw");
        return super.visitThrow(tree, nothing);
    }

    @Override
    public Void visitTry(TryTree tree, Void nothing) {
        check(false, tree, "rule 6: try");
        return super.visitTry(tree, nothing);
    }

    @Override
    public Void visitSynchronized(SynchronizedTree tree, Void nothing) {
        check(false, tree, "rule 6: synchronized");
        return super.visitSynchronized(tree, nothing);
    }

    @Override
    public Void visitAssert(AssertTree tree, Void nothing) {
        check(false, tree, "rule 6: assert");
        return super.visitAssert(tree, nothing);
    }

    @Override
    public Void visitTypeCast(TypeCastTree tree, Void nothing) {
        check(typeOf(tree.getType()).getKind().isPrimitive(), tree, "rule 6: a cast of an object");
        return super.visitTypeCast(tree, nothing);
    }

    @Override
    public Void visitLiteral(LiteralTree tree, Void nothing) {
        boolean plain = !(tree.getValue() instanceof String s) || s.chars().allMatch(c -> c >= 1 && c <= 127);
        check(plain, tree, "rule 4: a sign above 127");
        return super.visitLiteral(tree, nothing);
    }

    @Override
    public Void visitBinary(BinaryTree tree, Void nothing) {
        boolean texts = isText(typeOf(tree.getLeftOperand())) || isText(typeOf(tree.getRightOperand()));
        check(!texts || tree.getKind() != Tree.Kind.PLUS, tree, "rule 10: texts joined by +");
        boolean same = tree.getKind() == Tree.Kind.EQUAL_TO || tree.getKind() == Tree.Kind.NOT_EQUAL_TO;
        check(!texts || !same, tree, "rule 6: texts by ==");
        return super.visitBinary(tree, nothing);
    }

    @Override
    public Void visitForLoop(ForLoopTree tree, Void nothing) {
        check(isBound(tree.getCondition()) && !tree.getUpdate().isEmpty(), tree, "rule 9: a for without a bound");
        return super.visitForLoop(tree, nothing);
    }

    @Override
    public Void visitWhileLoop(WhileLoopTree tree, Void nothing) {
        check(isBound(tree.getCondition()), tree, "rule 9: a while without a bound");
        return super.visitWhileLoop(tree, nothing);
    }

    @Override
    public Void visitDoWhileLoop(DoWhileLoopTree tree, Void nothing) {
        check(isBound(tree.getCondition()), tree, "rule 9: a do without a bound");
        return super.visitDoWhileLoop(tree, nothing);
    }

    /** Some < <= > or >= stands in it, and no or that could let the loop go on without it. */
    private static boolean isBound(ExpressionTree condition) {
        Set<Tree.Kind> kinds = new HashSet<>();
        new TreeScanner<Void, Void>() {
            @Override
            public Void visitBinary(BinaryTree tree, Void nothing) {
                kinds.add(tree.getKind());
                return tree.getKind() == Tree.Kind.CONDITIONAL_AND ? super.visitBinary(tree, nothing) : null;
            }

            @Override
            public Void visitParenthesized(com.sun.source.tree.ParenthesizedTree tree, Void nothing) {
                return tree.getExpression() instanceof BinaryTree b && b.getKind() == Tree.Kind.CONDITIONAL_OR
                    ? null : super.visitParenthesized(tree, nothing);
            }
        }.scan(condition, null);
        return kinds.contains(Tree.Kind.LESS_THAN) || kinds.contains(Tree.Kind.LESS_THAN_EQUAL)
            || kinds.contains(Tree.Kind.GREATER_THAN) || kinds.contains(Tree.Kind.GREATER_THAN_EQUAL);
    }
}
