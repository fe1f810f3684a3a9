import java.io.IOException;
import java.nio.file.DirectoryStream;
import java.nio.file.Files;
import java.nio.file.Path;
import java.util.ArrayList;
import java.util.List;
import java.util.regex.Matcher;
import java.util.regex.Pattern;

/** Whether each sentence of the document's Terms and promises is quoted by a test, by Check.says(). */
public final class SentencesTest {
    private static final String TEXT = "\"(?:[^\"\\\\]|\\\\.)*\"";
    private static final Pattern SAYS = Pattern.compile("Check\\.says\\(((?:\\s*\\+?\\s*" + TEXT + ")+)\\)");
    private static final Pattern PROMISE = Pattern.compile("## Promise (\\d+): \\w+( \\w+)* `[^`]*`:");

    /** What no test can show, or what only says where words of the document stand. */
    private static final String[] WITHOUT = {
        "THE FAIRS are", "A MONEY is WORTH at a FAIR", "CASH is in coppers, letters too.", "To come:", "The constants:",
        // nobody can come by more: six have 999 each, and 9,999 besides
        "CASH is 999,999 at most.",
        "At a FAIR that is held with MULES, ahead of (1),", "DRAWS:", ": each, by numbers,",
        // each of these is quoted with the calls that answer it
        ": -2 there is none such; -3 a number can't be; -4 too many; -5 it can't be now; -6 a TRAY is MISSING;"
        + " -7 it has no such "
            + "number; -11 to -13 why not (1 to 3); -30 less the FAULT: a text.", "net(): -99,000,002 and -99,000,003.",
        "The k-th, the i-th of whatever: from 0 on, where it isn't told otherwise.", "==== 2.", "==== 3.", "```text",
        "```"};

    private static List<String> quotes() throws IOException {
        List<String> all = new ArrayList<>();
        try (DirectoryStream<Path> files = Files.newDirectoryStream(Path.of("src/test/java"), "*.java")) {
            for (Path file : files) {
                Matcher says = SAYS.matcher(Files.readString(file));
                while (says.find()) {
                    StringBuilder quote = new StringBuilder();
                    Matcher part = Pattern.compile(TEXT).matcher(says.group(1));
                    while (part.find()) quote.append(part.group(), 1, part.group().length() - 1);
                    all.add(quote.toString());
                }
            }
        }
        return all;
    }

    /** Blots out every place where these words stand in the text, quoted already or not. */
    private static void blot(String text, StringBuilder left, String words) {
        for (int i = text.indexOf(words); i >= 0; i = text.indexOf(words, i + 1)) {
            left.replace(i, i + words.length(), ".".repeat(words.length()));
        }
    }

    public static void main(String[] args) throws IOException {
        String whole = Check.document();
        if (whole.isEmpty()) return;
        String terms = whole.substring(whole.indexOf("## Terms") + 8, whole.indexOf("Ahead of the calls"));
        String promises = whole.substring(whole.indexOf("## Promise 1:"), whole.indexOf("## Not promised"));
        String text = terms + PROMISE.matcher(promises).replaceAll("\n");
        StringBuilder left = new StringBuilder(text);
        for (String q : quotes()) blot(text, left, q);
        for (String w : WITHOUT) blot(text, left, w);
        Matcher rest = Pattern.compile("[^.,;: \n]+[^\n.]*").matcher(left);
        while (rest.find()) Check.due("tests of '" + rest.group() + "'", 0, 1);
        int told = 0;
        Matcher promise = PROMISE.matcher(promises);
        while (promise.find()) told++;
        Check.due("promises", told, 45);
        Check.close("SentencesTest");
    }
}
