import com.sun.source.tree.*;
import com.sun.source.util.*;
import java.nio.file.Path;
import java.util.*;
import javax.lang.model.element.*;
import javax.lang.model.type.TypeMirror;
import javax.tools.*;

/** The rules of LANGUAGE.md that can be seen in the source: what it calls, how deep, how long, and what it never has. */
public final class LanguageTest {
    private static final Set<String> FACE = new TreeSet<>(List.of("feed", "end", "plan", "fault", "count", "thing", "letter", "value", "set", "step", "tick",
        "strike", "ask", "told", "await", "dial", "clock", "octet", "measure", "together", "train", "wheel", "date", "keep", "back"));
    private static final Set<String> LIBRARY = Set.of("Math.max", "Math.min", "Math.floorDiv", "Math.floorMod", "Long.compare", "System.arraycopy",
        "Arrays.fill", "String.charAt", "String.indexOf", "Object.<init>");
    private static final Set<Tree.Kind> NEVER = EnumSet.of(Tree.Kind.LAMBDA_EXPRESSION, Tree.Kind.MEMBER_REFERENCE, Tree.Kind.TRY, Tree.Kind.CATCH,
        Tree.Kind.THROW, Tree.Kind.ASSERT, Tree.Kind.SYNCHRONIZED, Tree.Kind.INSTANCE_OF, Tree.Kind.SWITCH_EXPRESSION);

    private final Map<String, Set<String>> calls = new TreeMap<>();
    private final List<String> wrong = new ArrayList<>();
    private int classes = 0;

    private void refuse(String what) {
        wrong.add(what);
    }

    private final class Walk extends TreePathScanner<Void, Void> {
        private final CompilationUnitTree unit;
        private final Trees trees;
        private String method = "";
        private String owner = "";

        Walk(CompilationUnitTree unit, Trees trees) {
            this.unit = unit;
            this.trees = trees;
        }

        private long line(Tree tree, boolean end) {
            SourcePositions at = trees.getSourcePositions();
            return unit.getLineMap().getLineNumber(end ? at.getEndPosition(unit, tree) : at.getStartPosition(unit, tree));
        }

        private String here(Tree tree) {
            return "line " + line(tree, false) + ": ";
        }

        private boolean isReal(ExpressionTree tree) {
            TypeMirror type = trees.getTypeMirror(new TreePath(getCurrentPath(), tree));
            return type != null && (type.toString().equals("double") || type.toString().equals("float"));
        }

        @Override
        public Void scan(Tree tree, Void none) {
            if (tree != null && NEVER.contains(tree.getKind())) refuse(here(tree) + tree.getKind());
            return super.scan(tree, none);
        }

        @Override
        public Void visitImport(ImportTree tree, Void none) {
            if (!tree.getQualifiedIdentifier().toString().matches("java\\.util\\.(Arrays|ArrayList|List)")) refuse(here(tree) + "import");
            return null;
        }

        @Override
        public Void visitClass(ClassTree tree, Void none) {
            String ahead = owner;
            owner = tree.getSimpleName().toString();
            Set<Modifier> flags = tree.getModifiers().getFlags();
            boolean outer = ahead.isEmpty();
            if (!outer) classes++;
            if (!outer && (!flags.contains(Modifier.STATIC) || flags.contains(Modifier.PUBLIC))) refuse(here(tree) + "a class inside that is not as told");
            int fields = 0;
            for (Tree member : tree.getMembers()) {
                if (member.getKind() == Tree.Kind.BLOCK) refuse(here(member) + "an initialiser");
                if (!(member instanceof VariableTree field)) continue;
                Set<Modifier> kinds = field.getModifiers().getFlags();
                String type = field.getType().toString();
                boolean constant = kinds.contains(Modifier.STATIC);
                if (constant && !kinds.contains(Modifier.FINAL)) refuse(here(field) + "static and not final");
                if (constant && !type.matches("(int|long|char|byte)(\\[\\])?|boolean|String")) refuse(here(field) + "a static " + type);
                if (outer && !kinds.contains(Modifier.PRIVATE) && !field.getName().contentEquals("NONE")) refuse(here(field) + "a field that is seen");
                if (!constant) fields++;
            }
            if (fields > 20) refuse(here(tree) + fields + " fields");
            super.visitClass(tree, none);
            owner = ahead;
            return null;
        }

        @Override
        public Void visitMethod(MethodTree tree, Void none) {
            String name = tree.getName().toString();
            Set<Modifier> flags = tree.getModifiers().getFlags();
            boolean outer = owner.equals("TurningHall");
            if (outer && flags.contains(Modifier.PUBLIC) != (FACE.contains(name) || name.equals("<init>"))) refuse(here(tree) + name + " is or is not public");
            if (outer && !flags.contains(Modifier.PUBLIC) && !flags.contains(Modifier.PRIVATE)) refuse(here(tree) + name + " is seen");
            if (!outer && FACE.contains(name)) refuse(here(tree) + name + " bears the name of a public one");
            if (tree.getParameters().size() > 7) refuse(here(tree) + name + " has many parameters");
            if (line(tree, true) - line(tree, false) >= 60) refuse(here(tree) + name + " is long");
            String ahead = method;
            method = owner + "." + name;
            calls.putIfAbsent(method, new TreeSet<>());
            super.visitMethod(tree, none);
            method = ahead;
            return null;
        }

        private void called(Tree tree, Element element) {
            String to = element.getEnclosingElement().getSimpleName() + "." + element.getSimpleName();
            String pack = element.getEnclosingElement().toString();
            if (pack.startsWith("java.")) {
                if (!LIBRARY.contains(to)) refuse(here(tree) + to + " is not of the library");
            } else if (!method.isEmpty()) {
                calls.get(method).add(to);
            }
        }

        @Override
        public Void visitMethodInvocation(MethodInvocationTree tree, Void none) {
            called(tree, trees.getElement(getCurrentPath()));
            for (ExpressionTree argument : tree.getArguments()) {
                if (tree.getMethodSelect().toString().startsWith("Math.") && isReal(argument)) refuse(here(tree) + "Math on reals");
            }
            return super.visitMethodInvocation(tree, none);
        }

        @Override
        public Void visitNewClass(NewClassTree tree, Void none) {
            called(tree, trees.getElement(getCurrentPath()));
            return super.visitNewClass(tree, none);
        }

        @Override
        public Void visitMemberSelect(MemberSelectTree tree, Void none) {
            if (tree.toString().matches("(Integer|Long|Double|Float|Math|Character)\\.[A-Z_]+")) refuse(here(tree) + tree);
            return super.visitMemberSelect(tree, none);
        }

        @Override
        public Void visitBinary(BinaryTree tree, Void none) {
            if (tree.getKind() == Tree.Kind.REMAINDER && (isReal(tree.getLeftOperand()) || isReal(tree.getRightOperand()))) refuse(here(tree) + "% of reals");
            TypeMirror type = trees.getTypeMirror(getCurrentPath());
            if (tree.getKind() == Tree.Kind.PLUS && type.toString().contains("String")) refuse(here(tree) + "+ of texts");
            return super.visitBinary(tree, none);
        }
    }

    /** The longest chain of calls that stand open at once from a method on; one that calls itself is refused. */
    private List<String> chain(String method, Set<String> open) {
        List<String> deepest = new ArrayList<>();
        if (!open.add(method)) {
            refuse(method + " calls itself");
            return deepest;
        }
        for (String next : calls.getOrDefault(method, Set.of())) {
            List<String> one = chain(next, open);
            if (one.size() > deepest.size()) deepest = one;
        }
        open.remove(method);
        deepest.add(0, method);
        return deepest;
    }

    public static void main(String[] args) throws Exception {
        JavaCompiler compiler = ToolProvider.getSystemJavaCompiler();
        StandardJavaFileManager files = compiler.getStandardFileManager(null, null, null);
        JavacTask task = (JavacTask) compiler.getTask(null, files, null, List.of("-proc:none"), null,
            files.getJavaFileObjects(Path.of("src/main/java/TurningHall.java")));
        LanguageTest test = new LanguageTest();
        CompilationUnitTree unit = task.parse().iterator().next();
        task.analyze();
        test.new Walk(unit, Trees.instance(task)).scan(unit, null);
        if (test.classes > 12) test.refuse(test.classes + " classes");
        for (String name : FACE) {
            List<String> chain = test.chain("TurningHall." + name, new HashSet<>());
            if (chain.size() > 8) test.refuse(chain.size() + " calls deep: " + chain);
        }
        Set<String> seen = new TreeSet<>();
        for (java.lang.reflect.Method m : TurningHall.class.getDeclaredMethods()) {
            if (java.lang.reflect.Modifier.isPublic(m.getModifiers())) seen.add(m.getName());
        }
        Check.due("the face", seen.toString(), FACE.toString());
        for (String what : test.wrong) System.out.println(what);
        Check.due("what is not as LANGUAGE.md says", test.wrong.size(), 0);
        Check.close("LanguageTest");
    }
}
