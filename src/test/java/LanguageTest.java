import com.sun.source.tree.*;
import com.sun.source.util.*;
import java.nio.file.Path;
import java.util.*;
import javax.lang.model.element.*;
import javax.lang.model.type.TypeKind;
import javax.lang.model.type.TypeMirror;
import javax.tools.JavaCompiler;
import javax.tools.StandardJavaFileManager;
import javax.tools.ToolProvider;

/** Holds src/main/java/NextFair.java against the rules of ../shared/LANGUAGE.md that a program can see. */
public final class LanguageTest {
    private static final Set<String> FACE = Set.of("NONE", "feed", "fairs", "fault", "merchant", "letter", "worth",
        "seed", "write", "pay", "lend", "cancel", "hold", "undo", "judge", "perform", "year", "due", "net", "coin",
        "heaviest", "cashIn", "breaksIn", "broken", "chain", "pillar", "saves", "favour", "rings", "ring", "hangs",
        "calm", "danger", "vital", "changing", "interest", "dearest", "missing", "look", "numbers", "put", "lists",
        "image", "restore", "count");
    private static final Set<String> LIBRARY = Set.of("java.lang.Math.min", "java.lang.Math.max", "java.lang.Math.abs",
        "java.lang.Integer.bitCount", "java.lang.Integer.compare", "java.lang.Long.compare", "java.lang.String.length",
        "java.lang.String.charAt", "java.lang.String.indexOf", "java.lang.System.arraycopy", "java.util.Arrays.fill",
        "java.lang.Object.<init>");
    private static final Set<Tree.Kind> FORBIDDEN = EnumSet.of(Tree.Kind.THROW, Tree.Kind.TRY, Tree.Kind.CATCH,
        Tree.Kind.SYNCHRONIZED, Tree.Kind.ASSERT, Tree.Kind.LAMBDA_EXPRESSION, Tree.Kind.MEMBER_REFERENCE,
        Tree.Kind.BINDING_PATTERN, Tree.Kind.SWITCH_EXPRESSION, Tree.Kind.YIELD, Tree.Kind.ANNOTATION,
        Tree.Kind.TYPE_CAST, Tree.Kind.IMPORT, Tree.Kind.PACKAGE);
    /** The only methods that use an index as it comes: each looks at it first, or counts it against the length. */
    private static final Set<String> INDEXING = Set.of("NextFair.<init>", "NextFair.layOnTape", "NextFair.trayOf",
        "NextFair.imageOf", "NextFair.at", "NextFair.set", "NextFair.Reader.split", "NextFair.Reader.addNumber",
        "NextFair.Reader.wordKind", "NextFair.Reader.step", "NextFair.Reader.refuse", "NextFair.Book.addCode",
        "NextFair.Past.<init>", "NextFair.Past.row", "NextFair.Tray.make",
        "NextFair.Tray.get", "NextFair.Tray.keep");
    private static final int DEEP = 8;

    private static int wrong = 0;
    private static int seen = 0;
    private static CompilationUnitTree unit;
    private static Trees trees;
    private static final Map<String, Set<String>> CALLS = new TreeMap<>();
    private static final Set<String> PRIVATE = new HashSet<>();

    private static void wrong(Tree t, String what) {
        wrong++;
        long at = trees.getSourcePositions().getStartPosition(unit, t);
        System.out.println("line " + unit.getLineMap().getLineNumber(at) + ": " + what);
    }

    private static String name(ExecutableElement e) {
        return e.getEnclosingElement().toString() + "." + e.getSimpleName();
    }

    private static void classRules(ClassTree t, boolean outer) {
        Set<Modifier> flags = t.getModifiers().getFlags();
        if (outer && !(flags.contains(Modifier.PUBLIC) && flags.contains(Modifier.FINAL))) wrong(t, "1: the face");
        if (!outer && !flags.contains(Modifier.STATIC)) wrong(t, "2: an inner class");
        if (!outer && (flags.contains(Modifier.PUBLIC) || flags.contains(Modifier.PROTECTED))) wrong(t, "1: class");
        int fields = 0;
        for (Tree m : t.getMembers()) {
            if (m instanceof BlockTree) wrong(m, "5: an initialiser block");
            if (m instanceof VariableTree v && !v.getModifiers().getFlags().contains(Modifier.STATIC)) fields++;
            if (m instanceof VariableTree v && v.getModifiers().getFlags().contains(Modifier.STATIC)
                && !v.getModifiers().getFlags().contains(Modifier.FINAL)) wrong(m, "5: a static field that isn't final");
            if (outer) faceRules(m);
        }
        if (fields > 20) wrong(t, "11: fields " + fields);
    }

    private static void faceRules(Tree m) {
        ModifiersTree flags = m instanceof MethodTree f ? f.getModifiers()
            : m instanceof VariableTree v ? v.getModifiers() : null;
        if (flags == null) return;
        String name = m instanceof MethodTree f ? f.getName().toString() : ((VariableTree) m).getName().toString();
        boolean open = flags.getFlags().contains(Modifier.PUBLIC);
        if (!open && !flags.getFlags().contains(Modifier.PRIVATE)) wrong(m, "1: neither public nor private");
        boolean face = FACE.contains(name) || name.equals("<init>");
        if (open && !face) wrong(m, "1: not of the face: " + name);
        if (open) seen++;
    }

    private static void methodRules(MethodTree t, ExecutableElement e) {
        LineMap lines = unit.getLineMap();
        long from = lines.getLineNumber(trees.getSourcePositions().getStartPosition(unit, t));
        long to = lines.getLineNumber(trees.getSourcePositions().getEndPosition(unit, t));
        if (to - from > 60) wrong(t, "11: lines " + (to - from));
        if (t.getParameters().size() > 7) wrong(t, "11: parameters");
        boolean open = e.getModifiers().contains(Modifier.PUBLIC);
        if (!open && FACE.contains(t.getName().toString())) wrong(t, "1: a name of the face: " + t.getName());
        CALLS.putIfAbsent(name(e), new TreeSet<>());
        if (e.getModifiers().contains(Modifier.PRIVATE)) PRIVATE.add(name(e));
    }

    private static boolean isConstant(Tree t) {
        if (t instanceof LiteralTree) return true;
        return t instanceof IdentifierTree i && i.getName().toString().equals(i.getName().toString().toUpperCase());
    }

    private static final class Walk extends TreePathScanner<Void, String> {
        @Override public Void scan(Tree t, String in) {
            if (t != null && FORBIDDEN.contains(t.getKind()) && t.getKind() != Tree.Kind.TYPE_CAST) {
                wrong(t, "6 or 2: " + t.getKind());
            }
            return super.scan(t, in);
        }

        @Override public Void visitClass(ClassTree t, String in) {
            if (in != null && in.contains("(")) wrong(t, "2: a local class");
            classRules(t, in == null);
            return super.visitClass(t, in == null ? "NextFair" : in);
        }

        @Override public Void visitMethod(MethodTree t, String in) {
            ExecutableElement e = (ExecutableElement) trees.getElement(getCurrentPath());
            methodRules(t, e);
            return super.visitMethod(t, name(e));
        }

        @Override public Void visitTypeCast(TypeCastTree t, String in) {
            if (!(t.getType() instanceof PrimitiveTypeTree)) wrong(t, "6: a cast of objects");
            return super.visitTypeCast(t, in);
        }

        @Override public Void visitMethodInvocation(MethodInvocationTree t, String in) {
            ExecutableElement e = (ExecutableElement) trees.getElement(getCurrentPath());
            String name = name(e);
            if (!name.startsWith("NextFair") && !LIBRARY.contains(name)) wrong(t, "4: " + name);
            CALLS.computeIfAbsent(in, k -> new TreeSet<>()).add(name);
            return super.visitMethodInvocation(t, in);
        }

        @Override public Void visitNewClass(NewClassTree t, String in) {
            if (t.getClassBody() != null) wrong(t, "2: an anonymous class");
            return super.visitNewClass(t, in);
        }

        @Override public Void visitArrayAccess(ArrayAccessTree t, String in) {
            if (!INDEXING.contains(in)) wrong(t, "7: an index used in " + in);
            return super.visitArrayAccess(t, in);
        }

        @Override public Void visitBinary(BinaryTree t, String in) {
            TypeMirror type = trees.getTypeMirror(getCurrentPath());
            if (type != null && type.toString().equals("java.lang.String")) wrong(t, "10: texts joined by +");
            boolean divides = t.getKind() == Tree.Kind.DIVIDE || t.getKind() == Tree.Kind.REMAINDER;
            if (divides && !isConstant(t.getRightOperand()) && !in.equals("NextFair.cut")
                && !in.equals("NextFair.rest")) wrong(t, "7: a divisor in " + in);
            return super.visitBinary(t, in);
        }

        @Override public Void visitVariable(VariableTree t, String in) {
            TypeMirror type = trees.getTypeMirror(new TreePath(getCurrentPath(), t.getType()));
            while (type != null && type.getKind() == TypeKind.ARRAY) {
                type = ((javax.lang.model.type.ArrayType) type).getComponentType();
            }
            String s = String.valueOf(type);
            if (type != null && !type.getKind().isPrimitive() && !s.startsWith("NextFair")
                && !s.equals("java.lang.String")) wrong(t, "3: type " + s);
            return super.visitVariable(t, in);
        }
    }

    // ---- how deep the calls go, those of one recursion taken as one

    private static final Map<String, Integer> INDEX = new HashMap<>();
    private static final Map<String, Integer> LOW = new HashMap<>();
    private static final Deque<String> OPEN = new ArrayDeque<>();
    private static final Map<String, Integer> GROUP = new HashMap<>();
    private static final List<List<String>> GROUPS = new ArrayList<>();

    private static void connect(String m) {
        INDEX.put(m, INDEX.size());
        LOW.put(m, INDEX.get(m));
        OPEN.push(m);
        for (String c : CALLS.getOrDefault(m, Set.of())) {
            if (!INDEX.containsKey(c)) {
                connect(c);
                LOW.put(m, Math.min(LOW.get(m), LOW.get(c)));
            } else if (OPEN.contains(c)) {
                LOW.put(m, Math.min(LOW.get(m), INDEX.get(c)));
            }
        }
        if (!LOW.get(m).equals(INDEX.get(m))) return;
        List<String> group = new ArrayList<>();
        String c;
        do {
            c = OPEN.pop();
            group.add(c);
            GROUP.put(c, GROUPS.size());
        } while (!c.equals(m));
        GROUPS.add(group);
    }

    private static List<String> deepest(int group) {
        List<String> best = List.of();
        for (String m : GROUPS.get(group)) {
            for (String c : CALLS.getOrDefault(m, Set.of())) {
                if (GROUP.get(c) == group || !c.startsWith("NextFair")) continue;
                List<String> way = deepest(GROUP.get(c));
                if (way.size() > best.size()) best = way;
            }
        }
        List<String> way = new ArrayList<>(best);
        way.add(0, GROUPS.get(group).toString());
        return way;
    }

    /** The longest way on which no method stands twice. */
    private static List<String> longest(String m, LinkedHashSet<String> open) {
        List<String> best = List.of();
        open.add(m);
        for (String c : CALLS.getOrDefault(m, Set.of())) {
            if (open.contains(c) || !c.startsWith("NextFair")) continue;
            List<String> way = longest(c, open);
            if (way.size() > best.size()) best = way;
        }
        open.remove(m);
        List<String> way = new ArrayList<>(best);
        way.add(0, m);
        return way;
    }

    private static void depthRules() {
        for (String m : CALLS.keySet()) if (!INDEX.containsKey(m)) connect(m);
        List<String> most = List.of();
        for (int g = 0; g < GROUPS.size(); g++) {
            List<String> way = deepest(g);
            if (way.size() > most.size()) most = way;
            List<String> group = GROUPS.get(g);
            boolean recursion = group.size() > 1 || CALLS.getOrDefault(group.get(0), Set.of()).contains(group.get(0));
            for (String m : group) {
                if (recursion && !PRIVATE.contains(m)) {
                    wrong++;
                    System.out.println("8: a recursion through " + m);
                }
            }
        }
        for (String m : CALLS.keySet()) {
            List<String> way = longest(m, new LinkedHashSet<>());
            if (way.size() > most.size()) most = way;
        }
        System.out.println("deepest: " + String.join(" > ", most));
        if (most.size() > DEEP) {
            wrong++;
            System.out.println("11: calls go " + most.size() + " deep");
        }
    }

    public static void main(String[] args) throws Exception {
        JavaCompiler javac = ToolProvider.getSystemJavaCompiler();
        try (StandardJavaFileManager files = javac.getStandardFileManager(null, null, null)) {
            JavacTask task = (JavacTask) javac.getTask(null, files, null, List.of("-proc:none"), null,
                files.getJavaFileObjects(Path.of("src/main/java/NextFair.java")));
            unit = task.parse().iterator().next();
            task.analyze();
            trees = Trees.instance(task);
            if (unit.getTypeDecls().size() != 1) wrong(unit, "one class a file");
            new Walk().scan(unit, null);
            int classes = 0;
            for (Tree m : ((ClassTree) unit.getTypeDecls().get(0)).getMembers()) if (m instanceof ClassTree) classes++;
            System.out.println("classes: " + (classes + 1));
            if (classes + 1 > 12) wrong(unit, "11: classes");
            if (seen != FACE.size() + 1) wrong(unit, "1: the face has " + seen + " members");
            depthRules();
            String text = unit.getSourceFile().getCharContent(true).toString();
            if (text.chars().anyMatch(c -> c > 126 || (c < 32 && c != 10))) wrong(unit, "4: signs 1 to 127");
        }
        if (wrong != 0) System.exit(1);
    }
}
