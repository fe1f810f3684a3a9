import java.nio.charset.StandardCharsets;

/** What the tests share: counting answers that are not due, and texts laid on the tape. */
final class Check {
    static int answers = 0;
    static int wrong = 0;

    private Check() {
    }

    static void due(String what, long got, long want) {
        answers++;
        if (got == want) return;
        wrong++;
        if (wrong <= 50) System.out.println(what + " answered " + got + ", due is " + want);
    }

    /** Lays a text on the tape, blanks behind it, and reads it. */
    static int tell(NextFair x, String text) {
        lay(x, text);
        return x.fairs(text.length());
    }

    static void lay(NextFair x, String text) {
        for (int[] f : feeds(text)) x.feed(f[0], f[1], f[2], f[3], f[4]);
    }

    static int[][] feeds(String text) {
        byte[] bytes = text.getBytes(StandardCharsets.ISO_8859_1);
        int many = (bytes.length + 19) / 20;
        int[][] feeds = new int[many][5];
        for (int i = 0; i < many * 20; i++) {
            int b = i < bytes.length ? bytes[i] & 255 : 32;
            feeds[i / 20][i % 20 / 4] |= b << (24 - i % 4 * 8);
        }
        return feeds;
    }

    /** A tray of the widest sort with these numbers. */
    static void tray(NextFair x, int tray, long... numbers) {
        x.numbers(tray, 3, numbers.length);
        for (int i = 0; i < numbers.length; i++) x.put(tray, i, numbers[i]);
    }

    static void close(String name) {
        System.out.println(name + ": " + answers + " answers, " + wrong + " of them not as due");
        if (wrong != 0 || answers == 0) System.exit(1);
    }
}
