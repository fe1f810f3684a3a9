import java.io.ByteArrayOutputStream;
import java.io.IOException;
import java.io.PrintStream;
import java.lang.reflect.Method;
import java.lang.reflect.Modifier;
import java.net.URL;
import java.net.URLClassLoader;
import java.nio.charset.StandardCharsets;
import java.nio.file.DirectoryStream;
import java.nio.file.Files;
import java.nio.file.Path;
import java.util.regex.Matcher;
import java.util.regex.Pattern;
import java.util.stream.Stream;
import javax.tools.JavaCompiler;
import javax.tools.ToolProvider;

/** Whether what README.md says of using the class and of its tests holds. */
public final class ReadmeTest {
    private static String page;

    /** What stands in the first block of that kind. */
    private static String block(String kind) {
        Matcher block = Pattern.compile("```" + kind + "\n(.*?)```", Pattern.DOTALL).matcher(page);
        boolean found = block.find();
        Check.due("is there a block of " + kind + "? It", found ? 1 : 0, 1);
        return found ? block.group(1) : "";
    }

    private static void remove(Path folder) throws IOException {
        try (DirectoryStream<Path> files = Files.newDirectoryStream(folder)) {
            for (Path file : files) Files.delete(file);
        }
        Files.delete(folder);
    }

    /** What the program of the page prints. */
    private static String printed(String program) throws Exception {
        Path folder = Files.createTempDirectory("readme");
        PrintStream screen = System.out;
        ByteArrayOutputStream bytes = new ByteArrayOutputStream();
        try {
            Path file = folder.resolve("Example.java");
            Files.writeString(file, program);
            JavaCompiler javac = ToolProvider.getSystemJavaCompiler();
            int failed = javac.run(null, null, null, "-proc:none", "-d", folder.toString(), "-cp",
                System.getProperty("java.class.path"), file.toString());
            Check.due("compiling the program of the page", failed, 0);
            if (failed != 0) return "";
            try (URLClassLoader loader = new URLClassLoader(new URL[] {folder.toUri().toURL()})) {
                System.setOut(new PrintStream(bytes, true, StandardCharsets.UTF_8));
                Method main = loader.loadClass("Example").getMethod("main", String[].class);
                main.invoke(null, (Object) new String[0]);
            }
        } finally {
            System.setOut(screen);
            remove(folder);
        }
        return bytes.toString(StandardCharsets.UTF_8).replace("\r\n", "\n");
    }

    private static void program() throws Exception {
        String[] want = block("text").split("\n");
        String[] got = printed(block("java")).split("\n");
        Check.due("lines that the program of the page prints", got.length, want.length);
        for (int i = 0; i < Math.min(got.length, want.length); i++) {
            Check.due("is '" + got[i] + "' what the page says, '" + want[i] + "'? It", got[i].equals(want[i]) ? 1 : 0, 1);
        }
    }

    private static void names(String what) {
        Check.due("does the page tell " + what + "? It", page.contains(what) ? 1 : 0, 1);
    }

    private static void calls() {
        for (Method m : NextFair.class.getDeclaredMethods()) {
            if (Modifier.isPublic(m.getModifiers())) names("`" + m.getName() + "`");
        }
        for (int code : new int[] {-2, -3, -4, -5, -6, -7, -11, -12, -13, -31, -34, -99000002, -99000003}) {
            Check.due("does the page tell " + code + "? It",
                Pattern.compile("(?m)^\\|.*(?<!\\d)" + code + "(?!\\d).*\\|.*\\|$").matcher(page).find() ? 1 : 0, 1);
        }
        names("512 calls");
        names(".ci/run");
    }

    private static void tests() throws IOException {
        try (Stream<Path> files = Files.list(Path.of("src/test/java"))) {
            for (Path file : (Iterable<Path>) files::iterator) {
                names("`" + file.getFileName().toString().replace(".java", "") + "`");
            }
        }
    }

    public static void main(String[] args) throws Exception {
        page = Files.readString(Path.of("README.md"), StandardCharsets.UTF_8);
        program();
        calls();
        tests();
        Check.close("ReadmeTest");
    }
}
