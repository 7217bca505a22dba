import com.sun.source.tree.BlockTree;
import com.sun.source.tree.ClassTree;
import com.sun.source.tree.CompilationUnitTree;
import com.sun.source.tree.ForLoopTree;
import com.sun.source.tree.MethodInvocationTree;
import com.sun.source.tree.MethodTree;
import com.sun.source.tree.NewArrayTree;
import com.sun.source.tree.NewClassTree;
import com.sun.source.tree.Tree;
import com.sun.source.tree.TypeCastTree;
import com.sun.source.tree.VariableTree;
import com.sun.source.util.JavacTask;
import com.sun.source.util.SourcePositions;
import com.sun.source.util.TreePath;
import com.sun.source.util.TreePathScanner;
import com.sun.source.util.Trees;
import java.io.IOException;
import java.nio.file.Path;
import java.util.ArrayList;
import java.util.HashMap;
import java.util.HashSet;
import java.util.List;
import java.util.Map;
import java.util.Set;
import javax.lang.model.element.Element;
import javax.lang.model.element.ElementKind;
import javax.lang.model.element.Modifier;
import javax.tools.JavaCompiler;
import javax.tools.StandardJavaFileManager;
import javax.tools.ToolProvider;

/** Those rules of LANGUAGE.md that can be read off the program's text, by the compiler's own tree of it. */
public final class RulesTest extends TreePathScanner<Void, Void> {
    /** What the program is made of: nothing else may stand in it, unless the rules allow it and it is put here. */
    private static final Set<String> KINDS = Set.of("COMPILATION_UNIT", "IMPORT", "CLASS", "METHOD", "VARIABLE", "MODIFIERS", "BLOCK",
        "PRIMITIVE_TYPE", "ARRAY_TYPE", "IDENTIFIER", "MEMBER_SELECT", "METHOD_INVOCATION", "NEW_CLASS", "NEW_ARRAY", "ARRAY_ACCESS",
        "EXPRESSION_STATEMENT", "EMPTY_STATEMENT", "IF", "FOR_LOOP", "SWITCH", "CASE", "CONSTANT_CASE_LABEL", "DEFAULT_CASE_LABEL", "BREAK",
        "CONTINUE", "RETURN", "PARENTHESIZED", "CONDITIONAL_EXPRESSION", "ASSIGNMENT", "INT_LITERAL", "BOOLEAN_LITERAL",
        "PLUS", "MINUS", "MULTIPLY", "DIVIDE", "REMAINDER", "AND", "OR", "LEFT_SHIFT", "RIGHT_SHIFT", "BITWISE_COMPLEMENT", "UNARY_MINUS",
        "CONDITIONAL_AND", "CONDITIONAL_OR", "LOGICAL_COMPLEMENT", "EQUAL_TO", "NOT_EQUAL_TO", "LESS_THAN", "LESS_THAN_EQUAL", "GREATER_THAN",
        "GREATER_THAN_EQUAL", "POSTFIX_INCREMENT", "POSTFIX_DECREMENT", "PLUS_ASSIGNMENT", "MINUS_ASSIGNMENT", "AND_ASSIGNMENT",
        "OR_ASSIGNMENT");
    private static final Set<String> LIBRARY = Set.of("java.lang.Math.max(int,int)", "java.lang.Math.min(int,int)",
        "java.lang.System.arraycopy(java.lang.Object,int,java.lang.Object,int,int)", "java.util.Arrays.fill(int[],int)", "java.lang.Object()");
    private static final Set<String> TYPES = Set.of("int", "boolean", "void", "int[]", "int[][]");
    private static final int MOST_PARAMETERS = 7, MOST_LINES = 60, MOST_DEEP = 8, MOST_CLASSES = 12, MOST_FIELDS = 20;

    private static int wrong = 0;

    private final Trees trees;
    private final SourcePositions positions;
    private final CompilationUnitTree unit;
    private final Map<Element, Set<Element>> calls = new HashMap<>();
    private final Set<String> ownTypes = new HashSet<>();
    private final Set<String> publicNames = new HashSet<>(), otherNames = new HashSet<>();
    private final List<Element> open = new ArrayList<>();
    private int classes = 0;

    private RulesTest(Trees trees, CompilationUnitTree unit) {
        this.trees = trees;
        this.unit = unit;
        positions = trees.getSourcePositions();
    }

    public static void main(String[] args) throws IOException {
        JavaCompiler compiler = ToolProvider.getSystemJavaCompiler();
        try (StandardJavaFileManager files = compiler.getStandardFileManager(null, null, null)) {
            Path program = Path.of(args.length > 0 ? args[0] : "src/main/java/StrongCells.java");
            JavacTask task = (JavacTask) compiler.getTask(null, files, null, List.of("-proc:none"), null, files.getJavaFileObjects(program));
            CompilationUnitTree unit = task.parse().iterator().next();
            task.analyze();
            RulesTest rules = new RulesTest(Trees.instance(task), unit);
            rules.ownTypes(unit);
            rules.scan(unit, null);
            rules.wholeProgram();
        }
        System.out.println(wrong == 0 ? "the rules are kept" : wrong + " rules are broken");
        if (wrong != 0) System.exit(1);
    }

    private static void rule(int number, boolean kept, String what) {
        if (kept) return;
        wrong++;
        System.out.println("rule " + number + ": " + what);
    }

    private void ownTypes(CompilationUnitTree of) {
        for (Tree type : of.getTypeDecls()) {
            ClassTree c = (ClassTree) type;
            ownTypes.add(c.getSimpleName().toString());
            for (Tree member : c.getMembers()) {
                if (member instanceof ClassTree inside) ownTypes.add(inside.getSimpleName().toString());
            }
        }
    }

    private void wholeProgram() {
        rule(0, unit.getPackage() == null, "a package line");
        rule(0, unit.getTypeDecls().size() == 1, "more than one class in the file");
        rule(4, unit.getImports().size() == 1 && unit.getImports().get(0).getQualifiedIdentifier().toString().equals("java.util.Arrays"), "imports");
        rule(11, classes <= MOST_CLASSES, classes + " classes");
        for (String name : publicNames) rule(1, !otherNames.contains(name), "a method that is not public bears the name " + name);
        for (Element method : calls.keySet()) {
            int deep = deep(method, new ArrayList<>());
            rule(11, deep <= MOST_DEEP, method.getEnclosingElement() + "." + method + " goes " + deep + " calls deep");
        }
    }

    /** How many calls stand open at once, this one counted; the program has no recursion. */
    private int deep(Element method, List<Element> above) {
        if (above.contains(method)) {
            rule(8, false, method + " calls itself");
            return 0;
        }
        above.add(method);
        int deepest = 0;
        for (Element called : calls.getOrDefault(method, Set.of())) deepest = Math.max(deepest, deep(called, above));
        above.remove(above.size() - 1);
        return deepest + 1;
    }

    private long lines(Tree t) {
        return unit.getLineMap().getLineNumber(positions.getEndPosition(unit, t)) - unit.getLineMap().getLineNumber(positions.getStartPosition(unit, t)) + 1;
    }

    private boolean typeAllowed(Tree type) {
        String name = type.toString();
        return TYPES.contains(name) || ownTypes.contains(name);
    }

    @Override
    public Void scan(Tree t, Void v) {
        if (t != null) rule(10, KINDS.contains(t.getKind().name()), t.getKind() + ": " + t);
        return super.scan(t, v);
    }

    @Override
    public Void visitClass(ClassTree c, Void v) {
        classes++;
        boolean inside = getCurrentPath().getParentPath().getLeaf().getKind() == Tree.Kind.CLASS;
        Set<Modifier> flags = c.getModifiers().getFlags();
        if (inside) rule(2, flags.contains(Modifier.STATIC) && !flags.contains(Modifier.PUBLIC) && !flags.contains(Modifier.PROTECTED), "class " + c.getSimpleName());
        int fields = 0;
        for (Tree member : c.getMembers()) {
            if (!(member instanceof VariableTree field)) continue;
            Set<Modifier> of = field.getModifiers().getFlags();
            if (!of.contains(Modifier.STATIC)) {
                fields++;
            } else {
                rule(5, of.contains(Modifier.FINAL) && field.getType().toString().equals("int"), "static " + field.getName());
            }
            rule(1, inside || of.contains(Modifier.PRIVATE) || of.contains(Modifier.STATIC), field.getName() + " of the face");
        }
        rule(11, fields <= MOST_FIELDS, fields + " fields in " + c.getSimpleName());
        return super.visitClass(c, v);
    }

    @Override
    public Void visitVariable(VariableTree variable, Void v) {
        rule(3, typeAllowed(variable.getType()), "type of " + variable);
        return super.visitVariable(variable, v);
    }

    @Override
    public Void visitTypeCast(TypeCastTree cast, Void v) {
        rule(6, false, "a cast: " + cast);
        return super.visitTypeCast(cast, v);
    }

    @Override
    public Void visitForLoop(ForLoopTree loop, Void v) {
        rule(9, loop.getCondition() != null && !loop.getUpdate().isEmpty(), "a loop whose end is not seen: " + loop.getCondition());
        return super.visitForLoop(loop, v);
    }

    @Override
    public Void visitMethod(MethodTree method, Void v) {
        Element element = trees.getElement(getCurrentPath());
        rule(11, method.getParameters().size() <= MOST_PARAMETERS, method.getParameters().size() + " parameters: " + method.getName());
        rule(11, lines(method) <= MOST_LINES, lines(method) + " lines: " + method.getName());
        rule(3, method.getReturnType() == null || typeAllowed(method.getReturnType()), "what is returned by " + method.getName());
        rule(6, method.getThrows().isEmpty(), "throws: " + method.getName());
        calls.putIfAbsent(element, new HashSet<>());
        if (element.getKind() == ElementKind.METHOD) {
            (element.getModifiers().contains(Modifier.PUBLIC) ? publicNames : otherNames).add(method.getName().toString());
        }
        open.add(element);
        super.visitMethod(method, v);
        open.remove(open.size() - 1);
        return null;
    }

    @Override
    public Void visitBlock(BlockTree block, Void v) {
        boolean ofAClass = getCurrentPath().getParentPath().getLeaf().getKind() == Tree.Kind.CLASS;
        rule(5, !ofAClass, "an initialiser block");
        return super.visitBlock(block, v);
    }

    @Override
    public Void visitMethodInvocation(MethodInvocationTree call, Void v) {
        Element called = trees.getElement(getCurrentPath());
        String owner = called.getEnclosingElement().toString();
        boolean own = owner.equals("StrongCells") || owner.startsWith("StrongCells.");
        if (own && !open.isEmpty()) calls.get(open.get(open.size() - 1)).add(called);
        String full = called.getSimpleName().contentEquals("<init>") ? owner + called.toString().replaceFirst("^[^(]*", "") : owner + "." + called;
        if (!own) rule(4, LIBRARY.contains(full), "the library's " + full);
        return super.visitMethodInvocation(call, v);
    }

    /** Rule 12: all that the program makes, it makes with the object. */
    private void madeWithTheObject(Tree made) {
        for (TreePath path = getCurrentPath(); path != null; path = path.getParentPath()) {
            if (!(path.getLeaf() instanceof MethodTree method)) continue;
            rule(12, method.getName().contentEquals("<init>"), made + " is made by " + method.getName());
        }
    }

    @Override
    public Void visitNewClass(NewClassTree made, Void v) {
        madeWithTheObject(made);
        rule(2, made.getClassBody() == null, "a class without a name");
        rule(3, ownTypes.contains(made.getIdentifier().toString()), "an object of " + made.getIdentifier());
        return super.visitNewClass(made, v);
    }

    @Override
    public Void visitNewArray(NewArrayTree made, Void v) {
        madeWithTheObject(made);
        return super.visitNewArray(made, v);
    }
}
