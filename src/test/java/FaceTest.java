import java.io.IOException;
import java.lang.reflect.Field;
import java.lang.reflect.Method;
import java.lang.reflect.Modifier;
import java.nio.file.Files;
import java.nio.file.Path;
import java.util.Arrays;
import java.util.Set;
import java.util.TreeSet;
import java.util.regex.Matcher;
import java.util.regex.Pattern;

/** The class has the document's public face, and nothing else that isn't private but for the classes inside it. */
public final class FaceTest {
    public static void main(String[] args) throws IOException {
        Set<String> face = new TreeSet<>();
        for (Method method : NailedBoxes.class.getDeclaredMethods()) {
            if (Modifier.isPublic(method.getModifiers()) && !Modifier.isStatic(method.getModifiers())) {
                String parameters = Arrays.toString(method.getParameterTypes()).replaceAll("[\\[\\]]", "");
                face.add(method.getReturnType() + " " + method.getName() + "(" + parameters + ")");
            } else {
                Kit.due(method.getName() + " is private", Modifier.isPrivate(method.getModifiers()), true);
            }
        }
        for (Field field : NailedBoxes.class.getDeclaredFields()) {
            boolean isNone = field.getName().equals("NONE");
            Kit.due(field.getName() + " is private, but for NONE", Modifier.isPrivate(field.getModifiers()), !isNone);
        }
        Kit.due("constructors", NailedBoxes.class.getDeclaredConstructors().length, 1);
        Kit.due("the constructor is public", Modifier.isPublic(NailedBoxes.class.getDeclaredConstructors()[0].getModifiers()), true);
        Kit.due("final", Modifier.isFinal(NailedBoxes.class.getModifiers()), true);
        Path document = Path.of("../shared/DOC.md");
        if (Files.exists(document)) {
            compare(face, told(Files.readString(document)));
        }
        Kit.end();
    }

    private static Set<String> told(String document) {
        Set<String> told = new TreeSet<>();
        Matcher line = Pattern.compile("    public (int|boolean) (\\w+)\\(([^)]*)\\);").matcher(document);
        while (line.find()) {
            told.add(line.group(1) + " " + line.group(2) + "(" + line.group(3).replaceAll(" \\w+(?=,|$)", "") + ")");
        }
        return told;
    }

    private static void compare(Set<String> face, Set<String> told) {
        for (String method : told) {
            Kit.due("the document's " + method + " is there", face.contains(method), true);
        }
        for (String method : face) {
            Kit.due(method + " is the document's", told.contains(method), true);
        }
    }
}
