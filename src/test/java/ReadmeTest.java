import java.io.ByteArrayOutputStream;
import java.io.IOException;
import java.io.PrintStream;
import java.net.URL;
import java.net.URLClassLoader;
import java.nio.file.DirectoryStream;
import java.nio.file.Files;
import java.nio.file.Path;
import java.util.ArrayList;
import java.util.Arrays;
import java.util.Comparator;
import java.util.List;
import java.util.Set;
import java.util.TreeSet;
import java.util.regex.Matcher;
import java.util.regex.Pattern;
import java.util.stream.Stream;
import javax.tools.ToolProvider;

/** What README.md says is so: its program prints what it says, each test is named there, and no other. */
public final class ReadmeTest {
    public static void main(String[] args) throws Exception {
        String readme = Files.readString(Path.of("README.md"));
        int begin = readme.indexOf("```java\n") + 8;
        String program = readme.substring(begin, readme.indexOf("```", begin));
        List<String> said = found("show\\(.*\\); // (\\S+)", program);
        List<String> printed = run(program);
        Kit.due("answers in README.md", said.size() > 0, true);
        Kit.due("lines printed by README.md's program", printed.size(), said.size());
        for (int k = 0; k < Math.min(said.size(), printed.size()); k++) {
            String line = "line " + k + " of README.md's program: " + printed.get(k) + ", there stands " + said.get(k);
            Kit.due(line + ": the same", printed.get(k).equals(said.get(k)), true);
        }
        nameTests(new TreeSet<>(found("`(\\w+Test)`", readme)));
        Kit.end();
    }

    private static List<String> found(String pattern, String text) {
        List<String> found = new ArrayList<>();
        Matcher next = Pattern.compile(pattern).matcher(text);
        while (next.find()) {
            found.add(next.group(1));
        }
        return found;
    }

    private static List<String> run(String program) throws Exception {
        Path place = Files.createTempDirectory("readme");
        PrintStream out = System.out;
        ByteArrayOutputStream printed = new ByteArrayOutputStream();
        try {
            Path source = Files.writeString(place.resolve("Example.java"), program);
            int answer = ToolProvider.getSystemJavaCompiler().run(null, null, null,
                    "-d", place.toString(), "src/main/java/NailedBoxes.java", source.toString());
            Kit.due("javac on README.md's program", answer, 0);
            URL[] places = {place.toUri().toURL()};
            try (URLClassLoader loader = new URLClassLoader(places, ClassLoader.getPlatformClassLoader())) {
                System.setOut(new PrintStream(printed));
                loader.loadClass("Example").getMethod("main", String[].class).invoke(null, (Object) new String[0]);
            }
        } finally {
            System.setOut(out);
            remove(place);
        }
        return Arrays.asList(printed.toString().split("\\R"));
    }

    private static void remove(Path place) throws IOException {
        try (Stream<Path> all = Files.walk(place)) {
            for (Path each : all.sorted(Comparator.reverseOrder()).toArray(Path[]::new)) {
                Files.delete(each);
            }
        }
    }

    private static void nameTests(Set<String> named) throws IOException {
        Set<String> there = new TreeSet<>();
        try (DirectoryStream<Path> tests = Files.newDirectoryStream(Path.of("src/test/java"), "*Test.java")) {
            for (Path test : tests) {
                there.add(test.getFileName().toString().replace(".java", ""));
            }
        }
        for (String test : there) {
            Kit.due("README.md names " + test, named.contains(test), true);
        }
        for (String test : named) {
            Kit.due(test + ", which README.md names, is there", there.contains(test), true);
        }
    }
}
