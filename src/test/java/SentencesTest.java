import java.io.IOException;
import java.nio.file.DirectoryStream;
import java.nio.file.Files;
import java.nio.file.Path;
import java.util.regex.Matcher;
import java.util.regex.Pattern;

/** Every word of the document's Terms and promises stands in a sentence that a test names, and what a test names stands there. */
public final class SentencesTest {
    private static final int PROMISES = 46;

    // place 0: the Terms
    private static final String[] TEXTS = new String[PROMISES + 1];
    private static final boolean[][] NAMED = new boolean[PROMISES + 1][];

    public static void main(String[] args) throws IOException {
        Path document = Path.of("../shared/DOC.md");
        if (!Files.exists(document)) {
            System.out.println("there is no document to look into");
            return;
        }
        readDocument(Files.readString(document));
        try (DirectoryStream<Path> tests = Files.newDirectoryStream(Path.of("src/test/java"), "*.java")) {
            for (Path test : tests) {
                lookUp(test);
            }
        }
        for (int promise = 0; promise <= PROMISES; promise++) {
            tellUnnamed(promise);
        }
        Kit.end();
    }

    private static void readDocument(String document) {
        TEXTS[0] = plain(between(document, "\n## Terms\n", "\n## Promise 1:"));
        for (int promise = 1; promise <= PROMISES; promise++) {
            String under = between(document, "\n## Promise " + promise + ":", "\n## ");
            TEXTS[promise] = plain(under.substring(under.indexOf("`: ") + 3));
        }
        for (int promise = 0; promise <= PROMISES; promise++) {
            NAMED[promise] = new boolean[TEXTS[promise].length()];
        }
    }

    private static String between(String text, String from, String to) {
        int begin = text.indexOf(from) + from.length();
        return text.substring(begin, text.indexOf(to, begin));
    }

    private static String plain(String text) {
        return text.replaceAll("```\\w*|==== \\d\\.", " ").replaceAll("\\s+", " ");
    }

    private static void lookUp(Path test) throws IOException {
        Matcher call = Pattern.compile("sentence\\((\\d+), \"((?:\\\\.|[^\"\\\\])*)\"\\)").matcher(Files.readString(test));
        while (call.find()) {
            int promise = Integer.parseInt(call.group(1));
            String words = call.group(2).replace("\\\"", "\"").replace("\\\\", "\\");
            boolean isThere = promise <= PROMISES && TEXTS[promise].contains(words);
            Kit.due(test.getFileName() + " names of " + promise + " '" + words + "': it stands there", isThere, true);
            for (int at = isThere ? TEXTS[promise].indexOf(words) : -1; at >= 0; at = TEXTS[promise].indexOf(words, at + 1)) {
                java.util.Arrays.fill(NAMED[promise], at, at + words.length(), true);
            }
        }
    }

    private static void tellUnnamed(int promise) {
        String text = TEXTS[promise];
        for (int at = 0; at < text.length(); at++) {
            int end = at;
            while (end < text.length() && !NAMED[promise][end]) {
                end++;
            }
            String unnamed = text.substring(at, end);
            Kit.due("no test names of " + promise + " '" + unnamed + "'", unnamed.matches("[^a-zA-Z0-9]*"), true);
            at = Math.max(at, end - 1);
        }
    }
}
