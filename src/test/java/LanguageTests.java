import com.sun.source.tree.AnnotatedTypeTree;
import com.sun.source.tree.AssertTree;
import com.sun.source.tree.BinaryTree;
import com.sun.source.tree.ClassTree;
import com.sun.source.tree.CompilationUnitTree;
import com.sun.source.tree.IdentifierTree;
import com.sun.source.tree.LambdaExpressionTree;
import com.sun.source.tree.MemberReferenceTree;
import com.sun.source.tree.MethodInvocationTree;
import com.sun.source.tree.MethodTree;
import com.sun.source.tree.NewArrayTree;
import com.sun.source.tree.NewClassTree;
import com.sun.source.tree.SynchronizedTree;
import com.sun.source.tree.ThrowTree;
import com.sun.source.tree.Tree;
import com.sun.source.tree.TryTree;
import com.sun.source.tree.TypeCastTree;
import com.sun.source.tree.VariableTree;
import com.sun.source.tree.WhileLoopTree;
import com.sun.source.util.JavacTask;
import com.sun.source.util.SourcePositions;
import com.sun.source.util.TreePathScanner;
import com.sun.source.util.Trees;
import java.lang.reflect.Field;
import java.lang.reflect.Method;
import java.lang.reflect.Modifier;
import java.nio.file.Files;
import java.nio.file.Path;
import java.util.ArrayList;
import java.util.Arrays;
import java.util.LinkedHashMap;
import java.util.LinkedHashSet;
import java.util.List;
import java.util.Map;
import java.util.Set;
import java.util.TreeSet;
import java.util.regex.Matcher;
import java.util.regex.Pattern;
import javax.lang.model.element.Element;
import javax.lang.model.element.ElementKind;
import javax.lang.model.element.ExecutableElement;
import javax.tools.JavaCompiler;
import javax.tools.StandardJavaFileManager;
import javax.tools.ToolProvider;

/** The face of ../shared/DOC.md and, as far as they can be seen from the source, the rules of ../shared/LANGUAGE.md. */
public final class LanguageTests {
    private static final Path SOURCE = Path.of("src/main/java/CutOffFilter.java");
    private static final Path DOCUMENT = Path.of("../shared/DOC.md");
    private static final Set<String> LIBRARY = Set.of("Math.abs", "Math.min", "Math.max", "String.indexOf", "System.arraycopy");
    private static int wrong = 0;

    private static void fault(String what) {
        wrong++;
        System.out.println(what);
    }

    // ---- the face

    private static String shown(Method m) {
        StringBuilder s = new StringBuilder(m.getReturnType().getName() + " " + m.getName() + "(");
        for (Class<?> type : m.getParameterTypes()) {
            s.append(type.getName()).append(' ');
        }
        return s.append(")").toString();
    }

    private static void lookAtFace() throws Exception {
        String document = Files.readString(DOCUMENT);
        String face = document.substring(document.indexOf("```java"), document.indexOf("## Terms"));
        Set<String> due = new TreeSet<>();
        Matcher method = Pattern.compile("public (int|long) (\\w+)\\((.*?)\\);").matcher(face);
        while (method.find()) {
            StringBuilder s = new StringBuilder(method.group(1) + " " + method.group(2) + "(");
            for (String parameter : method.group(3).isEmpty() ? new String[0] : method.group(3).split(", ")) {
                s.append(parameter.split(" ")[0]).append(' ');
            }
            due.add(s.append(")").toString());
        }
        Set<String> are = new TreeSet<>();
        for (Method m : CutOffFilter.class.getDeclaredMethods()) {
            if (Modifier.isPublic(m.getModifiers())) {
                are.add(shown(m));
            } else if (!Modifier.isPrivate(m.getModifiers())) {
                fault("neither public nor private: " + m);
            }
        }
        if (due.size() != 47 || !due.equals(are)) {
            fault("the face's methods: due are " + due.size() + ", there are " + are.size() + ": " + due + " " + are);
        }
        Set<String> constants = new TreeSet<>();
        for (Field f : CutOffFilter.class.getDeclaredFields()) {
            if (Modifier.isPublic(f.getModifiers())) {
                constants.add(f.getName());
            } else if (!Modifier.isPrivate(f.getModifiers())) {
                fault("neither public nor private: " + f);
            }
        }
        if (!constants.equals(new TreeSet<>(List.of("BAD", "NOT", "FULL", "STATE", "NO", "NONE", "HALTED", "VOID", "ENDED")))) {
            fault("the face's constants: " + constants);
        }
        int modifiers = CutOffFilter.class.getModifiers();
        if (!Modifier.isPublic(modifiers) || !Modifier.isFinal(modifiers) || CutOffFilter.class.getConstructors().length != 1) {
            fault("the class is to be public and final, with one constructor");
        }
    }

    // ---- the source

    private static final class Look extends TreePathScanner<Void, Void> {
        final Trees trees;
        final SourcePositions positions;
        final CompilationUnitTree unit;
        final Map<Element, Set<Element>> calls = new LinkedHashMap<>();
        final Set<Element> privates = new LinkedHashSet<>();
        final Set<String> publics = new TreeSet<>();
        Element inside = null;
        int classes = 0;

        Look(Trees trees, CompilationUnitTree unit) {
            this.trees = trees;
            this.positions = trees.getSourcePositions();
            this.unit = unit;
        }

        private void faultAt(Tree tree, String what) {
            fault("line " + unit.getLineMap().getLineNumber(positions.getStartPosition(unit, tree)) + ": " + what);
        }

        private static boolean has(Set<javax.lang.model.element.Modifier> modifiers, String name) {
            return modifiers.contains(javax.lang.model.element.Modifier.valueOf(name));
        }

        @Override public Void visitClass(ClassTree tree, Void nothing) {
            classes++;
            Element element = trees.getElement(getCurrentPath());
            boolean isNested = element.getEnclosingElement().getKind() != ElementKind.PACKAGE;
            if (isNested && (element.getKind() != ElementKind.CLASS || !has(element.getModifiers(), "STATIC") || !has(element.getModifiers(), "PRIVATE"))) {
                faultAt(tree, "a class inside that is not private and static");
            }
            int fields = 0;
            for (Element member : element.getEnclosedElements()) {
                if (member.getKind() == ElementKind.FIELD && has(member.getModifiers(), "STATIC") && !has(member.getModifiers(), "FINAL")) {
                    faultAt(tree, "a static field that is not final: " + member);
                }
                fields += member.getKind() == ElementKind.FIELD && !has(member.getModifiers(), "STATIC") ? 1 : 0;
                if (member.getKind() == ElementKind.STATIC_INIT) {
                    faultAt(tree, "a static initialiser");
                }
            }
            if (fields > 20) {
                faultAt(tree, fields + " fields");
            }
            return super.visitClass(tree, nothing);
        }

        @Override public Void visitMethod(MethodTree tree, Void nothing) {
            Element before = inside;
            inside = trees.getElement(getCurrentPath());
            calls.putIfAbsent(inside, new LinkedHashSet<>());
            String name = tree.getName().toString();
            if (has(inside.getModifiers(), "PUBLIC")) {
                publics.add(name);
            } else if (!name.equals("<init>")) {
                privates.add(inside);
            }
            if (tree.getParameters().size() > 7) {
                faultAt(tree, name + " takes too many parameters");
            }
            long from = unit.getLineMap().getLineNumber(positions.getStartPosition(unit, tree));
            long to = unit.getLineMap().getLineNumber(Math.max(0, positions.getEndPosition(unit, tree)));
            if (to - from >= 60) {
                faultAt(tree, name + " is " + (to - from + 1) + " lines long");
            }
            super.visitMethod(tree, nothing);
            inside = before;
            return null;
        }

        @Override public Void visitMethodInvocation(MethodInvocationTree tree, Void nothing) {
            Element called = trees.getElement(getCurrentPath());
            String home = called.getEnclosingElement().toString();
            if (home.startsWith("CutOffFilter")) {
                if (inside != null) {
                    calls.get(inside).add(called);
                }
            } else if (!home.equals("java.lang.Object") && !LIBRARY.contains(called.getEnclosingElement().getSimpleName() + "." + called.getSimpleName())) {
                faultAt(tree, "a call of the library that is not looked for here: " + home + "." + called);
            }
            return super.visitMethodInvocation(tree, nothing);
        }

        @Override public Void visitNewClass(NewClassTree tree, Void nothing) {
            if (inside != null || tree.getClassBody() != null) {
                faultAt(tree, "an object that is made outside a field's initialiser, or of a class without a name");
            }
            return super.visitNewClass(tree, nothing);
        }

        @Override public Void visitNewArray(NewArrayTree tree, Void nothing) {
            if (inside != null) {
                faultAt(tree, "an array that is made outside a field's initialiser");
            }
            return super.visitNewArray(tree, nothing);
        }

        @Override public Void visitBinary(BinaryTree tree, Void nothing) {
            if (tree.getKind() == Tree.Kind.DIVIDE || tree.getKind() == Tree.Kind.REMAINDER) {
                boolean isLiteral = tree.getRightOperand().getKind() == Tree.Kind.INT_LITERAL;
                boolean isLookedAt = tree.getRightOperand() instanceof IdentifierTree id && id.getName().contentEquals("period");
                if (!isLiteral && !isLookedAt) {
                    faultAt(tree, "a divisor that is not looked for here");
                }
            }
            if (String.valueOf(trees.getTypeMirror(getCurrentPath())).equals("java.lang.String")) {
                faultAt(tree, "texts joined by +");
            }
            return super.visitBinary(tree, nothing);
        }

        @Override public Void visitTypeCast(TypeCastTree tree, Void nothing) {
            if (!Set.of("int", "long", "byte", "char").contains(tree.getType().toString())) {
                faultAt(tree, "a cast among classes");
            }
            return super.visitTypeCast(tree, nothing);
        }

        @Override public Void visitVariable(VariableTree tree, Void nothing) {
            String type = String.valueOf(tree.getType());
            if (type.contains("double") || type.contains("float") || type.equals("var")) {
                faultAt(tree, "a type that is not looked for here: " + type);
            }
            return super.visitVariable(tree, nothing);
        }

        @Override public Void visitThrow(ThrowTree tree, Void nothing) { faultAt(tree, "throw"); return null; }
        @Override public Void visitTry(TryTree tree, Void nothing) { faultAt(tree, "try"); return null; }
        @Override public Void visitSynchronized(SynchronizedTree tree, Void nothing) { faultAt(tree, "synchronized"); return null; }
        @Override public Void visitAssert(AssertTree tree, Void nothing) { faultAt(tree, "assert"); return null; }
        @Override public Void visitLambdaExpression(LambdaExpressionTree tree, Void nothing) { faultAt(tree, "a lambda"); return null; }
        @Override public Void visitMemberReference(MemberReferenceTree tree, Void nothing) { faultAt(tree, "a method reference"); return null; }
        @Override public Void visitWhileLoop(WhileLoopTree tree, Void nothing) { faultAt(tree, "a loop without a counter"); return null; }
        @Override public Void visitAnnotatedType(AnnotatedTypeTree tree, Void nothing) { faultAt(tree, "an annotation"); return null; }

        /** How deep the calls from a method go, its own one counted; the one that calls itself counts once. */
        private int depth(Element method, List<Element> above) {
            if (above.contains(method)) {
                if (above.get(above.size() - 1) != method || !method.getSimpleName().contentEquals("answer")) {
                    fault("a recursion that is not looked for here: " + method);
                }
                return 0;
            }
            List<Element> now = new ArrayList<>(above);
            now.add(method);
            int deepest = 0;
            for (Element called : calls.getOrDefault(method, Set.of())) {
                deepest = Math.max(deepest, depth(called, now));
            }
            return deepest + 1;
        }

        void lookAtCalls() {
            for (Element method : privates) {
                if (publics.contains(method.getSimpleName().toString())) {
                    fault("a method bears the name of a public one: " + method);
                }
            }
            for (Element method : calls.keySet()) {
                int depth = depth(method, List.of());
                if (depth > 8) {
                    fault(((ExecutableElement) method).getSimpleName() + " calls " + depth + " deep");
                }
            }
            if (classes > 12) {
                fault(classes + " classes");
            }
        }
    }

    private static void lookAtSource() throws Exception {
        JavaCompiler compiler = ToolProvider.getSystemJavaCompiler();
        try (StandardJavaFileManager files = compiler.getStandardFileManager(null, null, null)) {
            JavacTask task = (JavacTask) compiler.getTask(null, files, null, List.of("-proc:none"), null, files.getJavaFileObjects(SOURCE));
            CompilationUnitTree unit = task.parse().iterator().next();
            task.analyze();
            if (unit.getPackageName() != null || !unit.getImports().isEmpty() || unit.getTypeDecls().size() != 1) {
                fault("the file is to be one class without a package line and, as long as no list is used, without imports");
            }
            Look look = new Look(Trees.instance(task), unit);
            look.scan(unit, null);
            look.lookAtCalls();
        }
        byte[] bytes = Files.readAllBytes(SOURCE);
        for (int i = 0; i < bytes.length; i++) {
            if (bytes[i] <= 0) {
                fault("a sign beyond 1 .. 127 at " + i);
            }
        }
    }

    public static void main(String[] arguments) throws Exception {
        lookAtFace();
        lookAtSource();
        System.out.println(wrong == 0 ? "the face and the rules are kept" : wrong + " faults: " + Arrays.toString(arguments));
        if (wrong != 0) {
            System.exit(1);
        }
    }
}
