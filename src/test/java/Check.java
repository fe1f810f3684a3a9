import java.io.IOException;
import java.nio.charset.StandardCharsets;
import java.nio.file.Files;
import java.nio.file.Path;

/** What the tests share: counting answers that are not due, and texts laid on the tape. */
final class Check {
    static int answers = 0;
    static int wrong = 0;

    private static String document;
    private static String sentence = "";

    private Check() {
    }

    static void due(String what, long got, long want) {
        answers++;
        if (got == want) return;
        wrong++;
        if (wrong <= 50) System.out.println(sentence + what + " answered " + got + ", due is " + want);
    }

    /** What the document says, and all that is checked from here on holds the program to: its words, to the letter. */
    static void says(String words) {
        sentence = "";
        boolean stands = document().isEmpty() || document().contains(words);
        due("does the document say '" + words + "'? It", stands ? 1 : 0, 1);
        sentence = "'" + words + "': ";
    }

    /** The document, its blanks and ends of lines one blank each; empty where it can't be read. */
    static String document() {
        if (document != null) return document;
        try {
            document = Files.readString(Path.of("../shared/DOC.md"), StandardCharsets.UTF_8).replaceAll("\\s+", " ");
        } catch (IOException e) {
            document = "";
            System.out.println("there is no ../shared/DOC.md: what tests quote isn't looked up");
        }
        return document;
    }

    /** A new one with these fairs, which must be without fault. */
    static Counted of(String text) {
        Counted x = new Counted();
        if (tell(x, text) < 0) due("place of a fault in " + text, x.fault(1), -1);
        return x;
    }

    /** A text with a fault: which, and where. */
    static void fault(String text, int kind, int place) {
        Counted x = new Counted();
        due("fairs() of " + text, tell(x, text), -30 - kind);
        due("fault(0) of " + text, x.fault(0), kind);
        due("fault(1) of " + text, x.fault(1), place);
    }

    /** A text without one: its lines. */
    static void good(String text, int lines) {
        Counted x = new Counted();
        due("fairs() of " + text, tell(x, text), lines);
        due("fault(0) of " + text, x.fault(0), 0);
        due("fault(1) of " + text, x.fault(1), -1);
        due("count(10) of " + text, x.count(10), lines);
    }

    static void cash(Counted x, int... coppers) {
        for (int m = 0; m < coppers.length; m++) due("merchant(" + m + ", 0)", x.merchant(m, 0), coppers[m]);
    }

    /** Lays a text on the tape, blanks behind it, and reads it. */
    static int tell(Counted x, String text) {
        lay(x, text);
        return x.fairs(text.length());
    }

    static void lay(Counted x, String text) {
        for (int[] f : feeds(text)) x.feed(f[0], f[1], f[2], f[3], f[4]);
    }

    static int[][] feeds(String text) {
        byte[] bytes = text.getBytes(StandardCharsets.ISO_8859_1);
        int many = (bytes.length + 19) / 20;
        int[][] feeds = new int[many][5];
        for (int i = 0; i < many * 20; i++) {
            int b = i < bytes.length ? bytes[i] & 255 : 32;
            feeds[i / 20][i % 20 / 4] |= b << (24 - i % 4 * 8);
        }
        return feeds;
    }

    /** A tray of the widest sort with these numbers. */
    static void tray(Counted x, int tray, long... numbers) {
        x.numbers(tray, 3, numbers.length);
        for (int i = 0; i < numbers.length; i++) x.put(tray, i, numbers[i]);
    }

    static void close(String name) {
        System.out.println(name + ": " + answers + " answers, " + wrong + " of them not as due");
        if (wrong != 0 || answers == 0) System.exit(1);
    }
}
