import com.sun.source.tree.AssertTree;
import com.sun.source.tree.BinaryTree;
import com.sun.source.tree.BlockTree;
import com.sun.source.tree.ClassTree;
import com.sun.source.tree.CompilationUnitTree;
import com.sun.source.tree.CompoundAssignmentTree;
import com.sun.source.tree.DoWhileLoopTree;
import com.sun.source.tree.EnhancedForLoopTree;
import com.sun.source.tree.ForLoopTree;
import com.sun.source.tree.ImportTree;
import com.sun.source.tree.LambdaExpressionTree;
import com.sun.source.tree.MemberReferenceTree;
import com.sun.source.tree.MethodInvocationTree;
import com.sun.source.tree.MethodTree;
import com.sun.source.tree.NewArrayTree;
import com.sun.source.tree.NewClassTree;
import com.sun.source.tree.PackageTree;
import com.sun.source.tree.SynchronizedTree;
import com.sun.source.tree.ThrowTree;
import com.sun.source.tree.Tree;
import com.sun.source.tree.TryTree;
import com.sun.source.tree.TypeCastTree;
import com.sun.source.tree.VariableTree;
import com.sun.source.tree.WhileLoopTree;
import com.sun.source.util.JavacTask;
import com.sun.source.util.TreePathScanner;
import com.sun.source.util.Trees;
import java.io.IOException;
import java.lang.reflect.Constructor;
import java.lang.reflect.Field;
import java.lang.reflect.Method;
import java.lang.reflect.Modifier;
import java.nio.file.Files;
import java.nio.file.Path;
import java.util.HashMap;
import java.util.HashSet;
import java.util.List;
import java.util.Map;
import java.util.Set;
import java.util.TreeSet;
import javax.lang.model.element.Element;
import javax.lang.model.element.ElementKind;
import javax.lang.model.element.TypeElement;
import javax.tools.JavaCompiler;
import javax.tools.StandardJavaFileManager;
import javax.tools.ToolProvider;

/** The rules of LANGUAGE.md that a program can look at, and the document's face, member by member. */
final class LanguageTest {
    private static final Path SOURCE = Path.of("src/main/java/PeelReadings.java");
    private static final Path DOCUMENT = Path.of("../shared/DOC.md");
    private static final int MOST_PARAMETERS = 7, MOST_LINES = 60, MOST_CALLS = 8, MOST_CLASSES = 12, MOST_FIELDS = 20;
    /** Of these, the static functions whose names do not end in Exact. */
    private static final Set<String> FUNCTIONS = Set.of("java.lang.Integer", "java.lang.Long", "java.lang.Math");
    private static final Map<String, Set<String>> LIBRARY = Map.of(
        "java.lang.Object", Set.of("<init>", "clone"),
        "java.lang.String", Set.of("<init>", "length", "charAt", "isEmpty", "equals", "indexOf", "substring", "toCharArray"),
        "java.lang.StringBuilder", Set.of("<init>", "append", "charAt", "setCharAt", "setLength", "deleteCharAt", "reverse",
            "length", "toString"),
        "java.util.ArrayList", Set.of("<init>", "add", "get", "set", "remove", "size", "isEmpty", "clear"),
        "java.util.List", Set.of("of", "add", "get", "set", "remove", "size", "isEmpty", "clear"),
        "java.util.Arrays", Set.of("copyOf", "copyOfRange", "fill"),
        "java.lang.System", Set.of("arraycopy"));
    private static final Set<String> CONSTANT_TYPES = Set.of("int", "long", "boolean", "char", "String");
    private static final Set<String> CONSTANT_ROWS = Set.of("int[]", "long[]", "char[]", "byte[]");

    public static void main(String[] args) throws IOException {
        face();
        members();
        source();
        Check.end();
    }

    private static void holds(String rule, boolean held) {
        Check.due(rule, held ? 1 : 0, 1);
    }

    private static void face() throws IOException {
        Set<String> want = new TreeSet<>();
        for (String line : Files.readAllLines(DOCUMENT)) {
            if (line.startsWith("    public ") && !line.contains("=")) {
                want.add(line.trim().replace("public ", "").replaceAll(" \\w+([,)])", "$1"));
            }
        }
        Set<String> got = new TreeSet<>();
        for (Constructor<?> made : PeelReadings.class.getConstructors()) {
            got.add("PeelReadings(" + parameters(made.getParameterTypes()) + ");");
        }
        for (Method method : PeelReadings.class.getDeclaredMethods()) {
            if (Modifier.isPublic(method.getModifiers())) {
                got.add(method.getReturnType() + " " + method.getName() + "(" + parameters(method.getParameterTypes()) + ");");
            }
        }
        Check.due("the face has as many members", got.size(), want.size());
        holds("the face is " + want + ", not " + got, got.equals(want));
    }

    private static String parameters(Class<?>[] types) {
        StringBuilder all = new StringBuilder();
        for (Class<?> type : types) {
            all.append(all.length() == 0 ? "" : ", ").append(type.getSimpleName());
        }
        return all.toString();
    }

    private static void members() {
        holds("rule 1: public, final", PeelReadings.class.getModifiers() == (Modifier.PUBLIC | Modifier.FINAL));
        Set<String> constants = new TreeSet<>();
        for (Field field : PeelReadings.class.getDeclaredFields()) {
            int modifiers = field.getModifiers();
            holds("rule 1: " + field, Modifier.isPublic(modifiers) || Modifier.isPrivate(modifiers));
            if (Modifier.isPublic(modifiers)) {
                constants.add(field.getName());
            }
        }
        holds("rule 1: " + constants, constants.equals(Set.of("BAD", "FULL", "FINDING", "STATE", "SPENT", "NONE")));
        for (Method method : PeelReadings.class.getDeclaredMethods()) {
            int modifiers = method.getModifiers();
            holds("rule 1: " + method, method.isSynthetic() || Modifier.isPublic(modifiers) || Modifier.isPrivate(modifiers));
        }
        for (Class<?> inside : PeelReadings.class.getDeclaredClasses()) {
            holds("rules 1, 2: " + inside, Modifier.isStatic(inside.getModifiers())
                && !Modifier.isPublic(inside.getModifiers()) && !Modifier.isProtected(inside.getModifiers()));
        }
    }

    private static void source() throws IOException {
        JavaCompiler compiler = ToolProvider.getSystemJavaCompiler();
        try (StandardJavaFileManager files = compiler.getStandardFileManager(null, null, null)) {
            JavacTask task = (JavacTask) compiler.getTask(null, files, null, List.of("-proc:none"), null,
                files.getJavaFileObjects(SOURCE));
            CompilationUnitTree unit = task.parse().iterator().next();
            task.analyze();
            Rules rules = new Rules(Trees.instance(task), unit);
            rules.scan(unit, null);
            rules.end();
        }
        for (char sign : Files.readString(SOURCE).toCharArray()) {
            if (sign > 127) {
                holds("only signs up to 127, not " + (int) sign, false);
            }
        }
    }

    /** Looks at each part of the source, and gathers who calls whom. */
    private static final class Rules extends TreePathScanner<Void, Void> {
        private final Trees trees;
        private final CompilationUnitTree unit;
        private final Map<Element, Set<Element>> calls = new HashMap<>();
        private final Set<String> publicNames = new HashSet<>();
        private final Set<String> privateNames = new HashSet<>();
        private Element within = null;
        private int classes = 0;

        Rules(Trees trees, CompilationUnitTree unit) {
            this.trees = trees;
            this.unit = unit;
        }

        private long line(long position) {
            return unit.getLineMap().getLineNumber(position);
        }

        private void no(String rule, Tree tree) {
            holds(rule + " in line " + line(trees.getSourcePositions().getStartPosition(unit, tree)), false);
        }

        @Override
        public Void visitPackage(PackageTree tree, Void none) {
            no("a package line", tree);
            return super.visitPackage(tree, none);
        }

        @Override
        public Void visitImport(ImportTree tree, Void none) {
            String name = tree.getQualifiedIdentifier().toString();
            if (!name.startsWith("java.util.")) {
                no("rule 4: " + name, tree);
            }
            return super.visitImport(tree, none);
        }

        @Override
        public Void visitClass(ClassTree tree, Void none) {
            classes++;
            int fields = 0;
            for (Tree member : tree.getMembers()) {
                if (member instanceof VariableTree field) {
                    boolean isStatic = field.getModifiers().getFlags().contains(javax.lang.model.element.Modifier.STATIC);
                    boolean isFinal = field.getModifiers().getFlags().contains(javax.lang.model.element.Modifier.FINAL);
                    fields += isStatic ? 0 : 1;
                    if (isStatic && (!isFinal || !isConstant(field))) {
                        no("rule 5: static, no constant: " + field.getName(), field);
                    }
                }
                if (member instanceof BlockTree) {
                    no("rule 5: a block", member);
                }
            }
            holds("rule 11: fields of " + tree.getSimpleName(), fields <= MOST_FIELDS);
            if (within != null) {
                no("rule 2: a local class", tree);
            }
            return super.visitClass(tree, none);
        }

        private static boolean isConstant(VariableTree field) {
            String type = field.getType().toString();
            boolean isWrittenOut = field.getInitializer() instanceof NewArrayTree row && row.getInitializers() != null;
            return CONSTANT_TYPES.contains(type) || CONSTANT_ROWS.contains(type) && isWrittenOut;
        }

        @Override
        public Void visitMethod(MethodTree tree, Void none) {
            within = trees.getElement(getCurrentPath());
            calls.computeIfAbsent(within, key -> new HashSet<>());
            long first = line(trees.getSourcePositions().getStartPosition(unit, tree));
            long last = line(trees.getSourcePositions().getEndPosition(unit, tree));
            holds("rule 11: lines of " + tree.getName(), last - first < MOST_LINES);
            holds("rule 11: parameters of " + tree.getName(), tree.getParameters().size() <= MOST_PARAMETERS);
            if (tree.getModifiers().getFlags().contains(javax.lang.model.element.Modifier.PUBLIC)) {
                publicNames.add(tree.getName().toString());
            } else if (within.getKind() == ElementKind.METHOD) {
                privateNames.add(tree.getName().toString());
            }
            super.visitMethod(tree, none);
            within = null;
            return null;
        }

        @Override
        public Void visitMethodInvocation(MethodInvocationTree tree, Void none) {
            note(trees.getElement(getCurrentPath()), tree);
            return super.visitMethodInvocation(tree, none);
        }

        @Override
        public Void visitNewClass(NewClassTree tree, Void none) {
            if (tree.getClassBody() != null) {
                no("rule 2: an anonymous class", tree);
            }
            made(tree);
            note(trees.getElement(getCurrentPath()), tree);
            return super.visitNewClass(tree, none);
        }

        @Override
        public Void visitNewArray(NewArrayTree tree, Void none) {
            made(tree);
            return super.visitNewArray(tree, none);
        }

        /** Rule 12 leaves more; the class makes all that it needs ahead, so that no run of calls fills the room. */
        private void made(Tree tree) {
            if (within != null && within.getKind() != ElementKind.CONSTRUCTOR) {
                no("rule 12: made outside of a constructor", tree);
            }
        }

        /** Rule 9: an end that can be seen, which a counter's bound is. */
        @Override
        public Void visitForLoop(ForLoopTree tree, Void none) {
            if (tree.getCondition() == null || tree.getUpdate().size() != 1) {
                no("rule 9: a loop without a bound, a counter", tree);
            }
            return super.visitForLoop(tree, none);
        }

        @Override
        public Void visitWhileLoop(WhileLoopTree tree, Void none) {
            no("rule 9: while has no counter", tree);
            return super.visitWhileLoop(tree, none);
        }

        @Override
        public Void visitDoWhileLoop(DoWhileLoopTree tree, Void none) {
            no("rule 9: do has no counter", tree);
            return super.visitDoWhileLoop(tree, none);
        }

        @Override
        public Void visitTypeCast(TypeCastTree tree, Void none) {
            if (!trees.getTypeMirror(getCurrentPath()).getKind().isPrimitive()) {
                no("rule 6: a cast that may fail", tree);
            }
            return super.visitTypeCast(tree, none);
        }

        private void note(Element called, Tree tree) {
            String owner = ((TypeElement) called.getEnclosingElement()).getQualifiedName().toString();
            if (!owner.startsWith("PeelReadings")) {
                String name = called.getSimpleName().toString();
                boolean isListed = LIBRARY.getOrDefault(owner, Set.of()).contains(name);
                if (!isListed && (!FUNCTIONS.contains(owner) || name.endsWith("Exact"))) {
                    no("rule 4: " + owner + "." + name, tree);
                }
                return;
            }
            if (within != null) {
                calls.get(within).add(called);
            }
        }

        @Override
        public Void visitThrow(ThrowTree tree, Void none) {
            no("rule 6: throw", tree);
            return null;
        }

        @Override
        public Void visitTry(TryTree tree, Void none) {
            no("rule 6: try", tree);
            return null;
        }

        @Override
        public Void visitSynchronized(SynchronizedTree tree, Void none) {
            no("rule 6: synchronized", tree);
            return null;
        }

        @Override
        public Void visitAssert(AssertTree tree, Void none) {
            no("rule 6: assert", tree);
            return null;
        }

        @Override
        public Void visitLambdaExpression(LambdaExpressionTree tree, Void none) {
            no("rule 2: a lambda", tree);
            return null;
        }

        @Override
        public Void visitMemberReference(MemberReferenceTree tree, Void none) {
            no("rule 2: a method reference", tree);
            return null;
        }

        @Override
        public Void visitEnhancedForLoop(EnhancedForLoopTree tree, Void none) {
            no("rule 12: a loop over a list makes an iterator", tree);
            return null;
        }

        @Override
        public Void visitBinary(BinaryTree tree, Void none) {
            if (tree.getKind() == Tree.Kind.PLUS && isText(tree)) {
                no("rule 10: texts joined by +", tree);
            }
            return super.visitBinary(tree, none);
        }

        @Override
        public Void visitCompoundAssignment(CompoundAssignmentTree tree, Void none) {
            if (isText(tree)) {
                no("rule 10: texts joined by +=", tree);
            }
            return super.visitCompoundAssignment(tree, none);
        }

        private boolean isText(Tree tree) {
            return trees.getTypeMirror(trees.getPath(unit, tree)).toString().equals("java.lang.String");
        }

        void end() {
            holds("rule 11: classes", classes <= MOST_CLASSES);
            privateNames.retainAll(publicNames);
            holds("rule 1: a private method bears a public one's name: " + privateNames, privateNames.isEmpty());
            for (Element method : calls.keySet()) {
                int depth = depth(method, MOST_CALLS + 1);
                holds("rules 8, 11: " + method + " goes " + depth + " deep", depth <= MOST_CALLS);
            }
        }

        /** How many calls stand open at once, cut at a limit: the class has no recursion, which would reach it. */
        private int depth(Element method, int limit) {
            int deepest = 0;
            if (limit > 0) {
                for (Element called : calls.getOrDefault(method, Set.of())) {
                    deepest = Math.max(deepest, depth(called, limit - 1));
                }
            }
            return deepest + 1;
        }
    }
}
