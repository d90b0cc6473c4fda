import com.sun.source.tree.*;
import com.sun.source.util.JavacTask;
import com.sun.source.util.TreePath;
import com.sun.source.util.TreePathScanner;
import com.sun.source.util.Trees;
import java.io.File;
import java.lang.reflect.Field;
import java.lang.reflect.Method;
import java.lang.reflect.Modifier;
import java.nio.charset.StandardCharsets;
import java.nio.file.Files;
import java.util.*;
import javax.lang.model.element.Element;
import javax.lang.model.element.ElementKind;
import javax.lang.model.element.ExecutableElement;
import javax.lang.model.element.TypeElement;
import javax.tools.JavaCompiler;
import javax.tools.StandardJavaFileManager;
import javax.tools.ToolProvider;

/** The rules of ../shared/LANGUAGE.md, as far as the compiler's tree of the program shows them. */
public final class FormTest {
    private static final File PROGRAM = new File("src/main/java/LineDispatcher.java");
    private static final int MOST_LINES = 60, MOST_PARAMETERS = 7, MOST_DEPTH = 8, MOST_CLASSES = 12, MOST_FIELDS = 20;
    private static final Set<String> LIBRARY = Set.of("java.lang.Math.max", "java.lang.Math.min", "java.lang.Math.abs",
            "java.lang.System.arraycopy");
    /** Kinds of trees that the rules forbid; 'new' is looked at on its own. */
    private static final Set<Tree.Kind> FORBIDDEN = Set.of(Tree.Kind.THROW, Tree.Kind.TRY, Tree.Kind.CATCH, Tree.Kind.ASSERT,
            Tree.Kind.SYNCHRONIZED, Tree.Kind.LAMBDA_EXPRESSION, Tree.Kind.MEMBER_REFERENCE, Tree.Kind.IMPORT,
            Tree.Kind.DIVIDE, Tree.Kind.REMAINDER, Tree.Kind.DIVIDE_ASSIGNMENT, Tree.Kind.REMAINDER_ASSIGNMENT,
            Tree.Kind.TYPE_CAST, Tree.Kind.INSTANCE_OF, Tree.Kind.SWITCH_EXPRESSION, Tree.Kind.NULL_LITERAL,
            Tree.Kind.WHILE_LOOP, Tree.Kind.DO_WHILE_LOOP);

    private static final String OWN_CLASS = "LineDispatcher(\\.[A-Za-z]+)?";
    /** The types of what the program needs: numbers, truth, its own classes, and rows of these. */
    private static final String TYPE = "void|boolean|int(\\[\\]){0,2}|" + OWN_CLASS + "(\\[\\])?";

    private static final Set<String> METHODS = Set.of("feed(int,int,int,int,int,int)", "execute()", "refusal(int)", "relief(int)",
            "cancel(int)", "lift(int)", "pass(int)", "train(int,int)", "station(int,int)", "block(int,int)", "why(int,int)",
            "order(int)", "plan(int)", "timetable(int,int,int)", "drift()", "ahead(int,int)", "held(int,int)", "conflicts()",
            "account(int,int)", "image()", "undo()", "count(int)");

    private static int wrong = 0;

    private static void fault(String text) {
        wrong++;
        System.out.println(text);
    }

    public static void main(String[] args) throws Exception {
        face();
        signs();
        JavaCompiler compiler = ToolProvider.getSystemJavaCompiler();
        try (StandardJavaFileManager files = compiler.getStandardFileManager(null, null, null)) {
            JavacTask task = (JavacTask) compiler.getTask(null, files, null, List.of("-proc:none"), null, files.getJavaFileObjects(PROGRAM));
            Iterable<? extends CompilationUnitTree> units = task.parse();
            task.analyze();
            Look look = new Look(Trees.instance(task));
            for (CompilationUnitTree unit : units) {
                if (unit.getPackageName() != null) fault("a package line");
                if (unit.getTypeDecls().size() != 1) fault("more than one class outside");
                look.scan(new TreePath(unit), null);
            }
            look.end();
        }
        if (wrong != 0) System.exit(1);
    }

    private static void face() throws Exception {
        Class<?> face = LineDispatcher.class;
        if (face.getModifiers() != (Modifier.PUBLIC | Modifier.FINAL)) fault("the class is not public and final");
        if (face.getDeclaredConstructors().length != 1) fault("there is not one constructor");
        if (!Modifier.isPublic(face.getDeclaredConstructor().getModifiers())) fault("the constructor is not public");
        Set<String> found = new HashSet<>();
        for (Method m : face.getDeclaredMethods()) {
            if (Modifier.isPrivate(m.getModifiers())) {
                if (METHODS.stream().anyMatch(s -> s.startsWith(m.getName() + "("))) fault("a private method " + m.getName());
                continue;
            }
            if (m.getReturnType() != int.class || m.getModifiers() != Modifier.PUBLIC) fault("the form of " + m);
            StringJoiner types = new StringJoiner(",", m.getName() + "(", ")");
            for (Class<?> type : m.getParameterTypes()) types.add(type.getName());
            found.add(types.toString());
        }
        if (!found.equals(METHODS)) fault("the methods are " + found);
        Set<String> constants = new HashSet<>();
        for (Field f : face.getDeclaredFields()) if (!Modifier.isPrivate(f.getModifiers())) constants.add(f.getName());
        if (!constants.equals(Set.of("NONE", "BAD", "STATE", "FULL"))) fault("the constants are " + constants);
    }

    /** In the comments, too, so that the file reads alike in every encoding. */
    private static void signs() throws Exception {
        String text = Files.readString(PROGRAM.toPath(), StandardCharsets.ISO_8859_1);
        for (int i = 0; i < text.length(); i++) {
            if (text.charAt(i) < 1 || text.charAt(i) > 127) fault("the sign " + (int) text.charAt(i) + " at " + i);
        }
    }

    private static final class Look extends TreePathScanner<Void, Void> {
        private final Trees trees;
        private final Map<String, Set<String>> calls = new TreeMap<>();
        private final Deque<String> inside = new ArrayDeque<>();
        private int classes = 0;

        Look(Trees trees) {
            this.trees = trees;
        }

        private Element element() {
            return trees.getElement(getCurrentPath());
        }

        private String place(Tree tree) {
            CompilationUnitTree unit = getCurrentPath().getCompilationUnit();
            return "line " + unit.getLineMap().getLineNumber(trees.getSourcePositions().getStartPosition(unit, tree)) + ": ";
        }

        @Override public Void scan(Tree tree, Void nothing) {
            if (tree != null && FORBIDDEN.contains(tree.getKind()) && !isNullForNoTrain(tree)) fault(place(tree) + tree.getKind());
            return super.scan(tree, nothing);
        }

        /** A question for a train that is not there answers null, and is compared with it. */
        private boolean isNullForNoTrain(Tree tree) {
            if (tree.getKind() != Tree.Kind.NULL_LITERAL) return false;
            Tree.Kind around = getCurrentPath().getLeaf().getKind();
            return around == Tree.Kind.EQUAL_TO || around == Tree.Kind.NOT_EQUAL_TO || around == Tree.Kind.CONDITIONAL_EXPRESSION;
        }

        @Override public Void visitClass(ClassTree tree, Void nothing) {
            classes++;
            int fields = 0;
            if (getCurrentPath().getParentPath().getLeaf().getKind() != Tree.Kind.COMPILATION_UNIT) classInside(tree);
            for (Tree member : tree.getMembers()) {
                if (member.getKind() == Tree.Kind.BLOCK) fault(place(member) + "a block in a class");
                if (!(member instanceof VariableTree)) continue;
                VariableTree field = (VariableTree) member;
                boolean isStatic = field.getModifiers().getFlags().contains(javax.lang.model.element.Modifier.STATIC);
                boolean isFinal = field.getModifiers().getFlags().contains(javax.lang.model.element.Modifier.FINAL);
                if (isStatic && (!isFinal || !field.getType().toString().equals("int"))) fault(place(member) + "static state");
                if (!isStatic) fields++;
            }
            if (fields > MOST_FIELDS) fault(place(tree) + fields + " fields");
            return super.visitClass(tree, nothing);
        }

        private void classInside(ClassTree tree) {
            Set<javax.lang.model.element.Modifier> flags = tree.getModifiers().getFlags();
            if (getCurrentPath().getParentPath().getLeaf().getKind() != Tree.Kind.CLASS) fault(place(tree) + "a class in a method");
            if (!flags.contains(javax.lang.model.element.Modifier.STATIC)) fault(place(tree) + "a class that is not static");
            if (flags.contains(javax.lang.model.element.Modifier.PUBLIC)) fault(place(tree) + "a public class inside");
            if (flags.contains(javax.lang.model.element.Modifier.PROTECTED)) fault(place(tree) + "a protected class inside");
        }

        /** The types of fields, parameters and what stands in methods. */
        @Override public Void visitVariable(VariableTree tree, Void nothing) {
            String type = element().asType().toString();
            if (!type.matches(TYPE)) fault(place(tree) + "the type " + type);
            for (javax.lang.model.element.Modifier flag : tree.getModifiers().getFlags()) {
                if (flag == javax.lang.model.element.Modifier.VOLATILE || flag == javax.lang.model.element.Modifier.TRANSIENT) fault(place(tree) + flag);
            }
            return super.visitVariable(tree, nothing);
        }

        @Override public Void visitAnnotation(AnnotationTree tree, Void nothing) {
            fault(place(tree) + "an annotation");
            return super.visitAnnotation(tree, nothing);
        }

        /** A private method must not bear the name of a public one, in the classes inside neither. */
        private void nameAndType(MethodTree tree) {
            boolean isPublic = tree.getModifiers().getFlags().contains(javax.lang.model.element.Modifier.PUBLIC);
            boolean isNamed = METHODS.stream().anyMatch(method -> method.startsWith(tree.getName() + "("));
            if (isNamed && !isPublic) fault(place(tree) + "the name of a public method, " + tree.getName());
            String type = ((ExecutableElement) element()).getReturnType().toString();
            if (!type.matches(TYPE)) fault(place(tree) + "the type " + type);
        }

        @Override public Void visitMethod(MethodTree tree, Void nothing) {
            nameAndType(tree);
            if (tree.getParameters().size() > MOST_PARAMETERS) fault(place(tree) + "too many parameters");
            CompilationUnitTree unit = getCurrentPath().getCompilationUnit();
            long first = unit.getLineMap().getLineNumber(trees.getSourcePositions().getStartPosition(unit, tree));
            long last = unit.getLineMap().getLineNumber(Math.max(0, trees.getSourcePositions().getEndPosition(unit, tree)));
            if (last - first >= MOST_LINES) fault(place(tree) + "a method of " + (last - first + 1) + " lines");
            inside.push(name((ExecutableElement) element()));
            calls.put(inside.peek(), new TreeSet<>());
            super.visitMethod(tree, nothing);
            inside.pop();
            return null;
        }

        private static String name(ExecutableElement method) {
            return ((TypeElement) method.getEnclosingElement()).getQualifiedName() + "." + method.getSimpleName();
        }

        @Override public Void visitMethodInvocation(MethodInvocationTree tree, Void nothing) {
            called((ExecutableElement) element(), tree);
            return super.visitMethodInvocation(tree, nothing);
        }

        private void called(ExecutableElement method, Tree tree) {
            String name = name(method);
            if (name.equals("java.lang.Object.<init>")) return;
            if (name.startsWith("LineDispatcher")) {
                if (!inside.isEmpty()) calls.get(inside.peek()).add(name);
            } else if (!LIBRARY.contains(name)) {
                fault(place(tree) + "a call of " + name);
            }
        }

        /** Objects are made while the dispatcher is made, and no more of them later. */
        private void made(Tree tree) {
            if (!inside.isEmpty() && !inside.peek().endsWith(".<init>")) fault(place(tree) + "an object that is made by a call");
        }

        @Override public Void visitNewClass(NewClassTree tree, Void nothing) {
            made(tree);
            called((ExecutableElement) element(), tree);
            return super.visitNewClass(tree, nothing);
        }

        @Override public Void visitNewArray(NewArrayTree tree, Void nothing) {
            made(tree);
            return super.visitNewArray(tree, nothing);
        }

        @Override public Void visitMemberSelect(MemberSelectTree tree, Void nothing) {
            Element element = element();
            if (element != null && element.getKind() == ElementKind.FIELD && !tree.getIdentifier().contentEquals("length")) {
                String owner = String.valueOf(element.getEnclosingElement());
                if (!owner.startsWith("LineDispatcher")) fault(place(tree) + "a field of " + owner);
            }
            return super.visitMemberSelect(tree, nothing);
        }

        @Override public Void visitForLoop(ForLoopTree tree, Void nothing) {
            if (tree.getCondition() == null || tree.getUpdate().isEmpty()) fault(place(tree) + "a loop without a visible end");
            return super.visitForLoop(tree, nothing);
        }

        @Override public Void visitLiteral(LiteralTree tree, Void nothing) {
            if (tree.getKind() == Tree.Kind.STRING_LITERAL) fault(place(tree) + "a text");
            return super.visitLiteral(tree, nothing);
        }

        private int depth(String method, Set<String> open) {
            if (!open.add(method)) {
                fault("a recursion through " + method);
                return 0;
            }
            int deepest = 0;
            for (String other : calls.getOrDefault(method, Set.of())) deepest = Math.max(deepest, depth(other, open));
            open.remove(method);
            return deepest + 1;
        }

        void end() {
            if (classes > MOST_CLASSES) fault(classes + " classes");
            for (String method : calls.keySet()) {
                int depth = depth(method, new HashSet<>());
                if (depth > MOST_DEPTH) fault(method + " goes " + depth + " calls deep");
            }
            if (calls.size() < METHODS.size()) fault("the program was not seen");
        }
    }
}
