import java.nio.file.Files;
import java.nio.file.Path;
import java.util.regex.Matcher;
import java.util.regex.Pattern;

/** What of ../shared/LANGUAGE.md can be seen in the words of the source. */
public final class LanguageTest {
    public static void main(String[] args) throws Exception {
        String source = Files.readString(Path.of("src/main/java/NailedBoxes.java"));
        String code = source.replaceAll("(?s)/\\*.*?\\*/", " ").replaceAll("//[^\n]*", " ").replaceAll("'(\\\\.|[^'])'", "' '");
        for (String word : new String[] {"throw", "throws", "try", "catch", "finally", "synchronized", "assert", "package", "var",
            "Object", "System\\.out", "Random", "Thread", "equals", "hashCode", "toString", "record\\s+[A-Z]", "\\w+Exact"}) {
            Kit.due("the word " + word, Pattern.compile("\\b" + word + "\\b").matcher(code).find(), false);
        }
        Kit.due("lambdas, references to methods", code.contains("->") || code.contains("::"), false);
        Matcher imports = Pattern.compile("import ([^;]*);").matcher(code);
        while (imports.find()) {
            Kit.due("import " + imports.group(1), imports.group(1).equals("java.util.Arrays"), true);
        }
        Kit.due("classes", Pattern.compile("\\bclass\\b").matcher(code).results().count() <= 12, true);
        methods(code);
        Kit.end();
    }

    private static void methods(String code) {
        int begun = -1;
        String name = "";
        String[] lines = code.split("\n", -1);
        for (int k = 0; k < lines.length; k++) {
            Matcher head = Pattern.compile("^ {4,8}[\\w \\[\\]<>]*?(\\w+)\\(([^)]*)\\) \\{$").matcher(lines[k]);
            if (head.find()) {
                begun = k;
                name = head.group(1);
                Kit.due("parameters of " + name, head.group(2).split(",").length <= 7, true);
                if (lines[k].contains("private")) {
                    final String called = name;
                    boolean isOfFace = java.util.Arrays.stream(NailedBoxes.class.getMethods()).anyMatch(m -> m.getName().equals(called));
                    Kit.due("a private method is named " + name, isOfFace, false);
                }
            }
            if (begun >= 0 && lines[k].matches("^ {4}( {4})?\\}$")) {
                Kit.due("lines of " + name, k - begun <= 60, true);
                begun = -1;
            }
        }
    }
}
