import java.lang.reflect.Constructor;
import java.lang.reflect.Field;
import java.lang.reflect.Method;
import java.lang.reflect.Modifier;
import java.util.TreeSet;
import java.util.regex.Matcher;
import java.util.regex.Pattern;

/** Whether NextFair has the document's public face, to the type, and shows nothing besides. */
public final class FaceTest {
    private static final Pattern BLOCK = Pattern.compile("public final class NextFair \\{ (.*?) \\}");
    private static final Pattern CONSTANT = Pattern.compile("public static final (\\w+) (\\w+) = (-?\\d+)");
    private static final Pattern CALL = Pattern.compile("public ((?:\\w+ )?\\w+)\\((.*)\\)");

    /** As the document has it, but for the names of what is handed in, which a compiled class doesn't keep. */
    private static TreeSet<String> told(String document) {
        TreeSet<String> face = new TreeSet<>();
        Matcher block = BLOCK.matcher(document);
        if (!block.find()) return face;
        for (String member : block.group(1).split(";")) {
            Matcher constant = CONSTANT.matcher(member.strip());
            Matcher call = CALL.matcher(member.strip());
            if (constant.matches()) {
                face.add(constant.group(1) + " " + constant.group(2) + " = " + constant.group(3));
            } else if (call.matches()) {
                face.add(call.group(1) + "(" + call.group(2).replaceAll("(\\w+) \\w+", "$1") + ")");
            } else {
                Check.due("a member that can't be read: " + member, 0, 1);
            }
        }
        return face;
    }

    private static String types(Class<?>[] types) {
        StringBuilder s = new StringBuilder();
        for (Class<?> type : types) s.append(s.length() == 0 ? "" : ", ").append(type.getName());
        return "(" + s + ")";
    }

    private static TreeSet<String> shown() throws IllegalAccessException {
        TreeSet<String> face = new TreeSet<>();
        for (Field f : NextFair.class.getDeclaredFields()) {
            if (Modifier.isPrivate(f.getModifiers())) continue;
            int open = Modifier.PUBLIC | Modifier.STATIC | Modifier.FINAL;
            Check.due("flags of " + f, f.getModifiers(), open);
            face.add(f.getType() + " " + f.getName() + " = " + f.get(null));
        }
        for (Constructor<?> c : NextFair.class.getDeclaredConstructors()) {
            if (Modifier.isPrivate(c.getModifiers())) continue;
            Check.due("flags of " + c, c.getModifiers(), Modifier.PUBLIC);
            face.add("NextFair" + types(c.getParameterTypes()));
        }
        for (Method m : NextFair.class.getDeclaredMethods()) {
            if (Modifier.isPrivate(m.getModifiers())) continue;
            Check.due("flags of " + m, m.getModifiers(), Modifier.PUBLIC);
            Check.due("what is thrown by " + m, m.getExceptionTypes().length, 0);
            face.add(m.getReturnType() + " " + m.getName() + types(m.getParameterTypes()));
        }
        return face;
    }

    public static void main(String[] args) throws IllegalAccessException {
        Check.due("the class is public and final", NextFair.class.getModifiers(), Modifier.PUBLIC | Modifier.FINAL);
        Check.due("it stands in no package", NextFair.class.getPackageName().length(), 0);
        Check.due("it is of no other kind", NextFair.class.getInterfaces().length, 0);
        Check.due("nor of another class", NextFair.class.getSuperclass() == Object.class ? 1 : 0, 1);
        for (Class<?> inside : NextFair.class.getDeclaredClasses()) {
            int flags = inside.getModifiers();
            boolean open = Modifier.isPublic(flags) || Modifier.isProtected(flags) || !Modifier.isStatic(flags);
            Check.due(inside + " is open, or not static. It", open ? 1 : 0, 0);
        }
        String document = Check.document();
        if (!document.isEmpty()) {
            TreeSet<String> want = told(document);
            TreeSet<String> got = shown();
            Check.due("members of the face that the document tells", want.size(), 46);
            for (String member : want) Check.due("is there " + member + "? It", got.contains(member) ? 1 : 0, 1);
            for (String member : got) Check.due("is " + member + " told? It", want.contains(member) ? 1 : 0, 1);
        }
        Check.close("FaceTest");
    }
}
