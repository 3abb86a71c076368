import java.io.IOException;
import java.lang.reflect.Constructor;
import java.lang.reflect.Field;
import java.lang.reflect.Method;
import java.lang.reflect.Modifier;
import java.nio.file.Files;
import java.nio.file.Path;
import java.util.Arrays;
import java.util.List;
import java.util.Set;
import java.util.TreeSet;
import java.util.stream.Collectors;

/** That the class has the face of the document, and no other member that is not private. */
public final class FaceTest extends Checks {
    private static final Path CLASS = Path.of("src/main/java/TheatreWall.java");

    private FaceTest() {
    }

    public static void main(String[] args) throws IOException {
        List<String> face = face();
        same("lines of the face", 27, face.size());
        looksFromOutside(face);
        isWritten(face);
        isHidden();
        end("FaceTest");
    }

    /** The lines of the document's face, but for the last bracket. */
    private static List<String> face() {
        String document = document();
        int first = document.indexOf("```java") + "```java".length();
        int last = document.indexOf("```", first);
        return Arrays.stream(document.substring(first, last).split("\n")).map(String::strip)
            .filter(line -> line.length() > 1).collect(Collectors.toList());
    }

    private static void looksFromOutside(List<String> face) {
        Class<?> wall = TheatreWall.class;
        Set<String> got = new TreeSet<>();
        got.add(Modifier.toString(wall.getModifiers()) + " class " + wall.getName() + " {");
        for (Field field : wall.getDeclaredFields()) {
            if (!Modifier.isPrivate(field.getModifiers())) {
                got.add(Modifier.toString(field.getModifiers()) + " " + field.getType() + " " + field.getName()
                    + " = " + TheatreWall.NONE + ";");
            }
        }
        for (Constructor<?> made : wall.getDeclaredConstructors()) {
            got.add(Modifier.toString(made.getModifiers()) + " " + made.getName() + "("
                + names(made.getParameterTypes()) + ");");
        }
        for (Method method : wall.getDeclaredMethods()) {
            if (!Modifier.isPrivate(method.getModifiers())) {
                got.add(written(method));
            }
        }
        same("the face", face.stream().map(FaceTest::withoutNames).collect(Collectors.toCollection(TreeSet::new)),
            got);
    }

    private static String written(Method method) {
        String thrown = names(method.getExceptionTypes());
        return Modifier.toString(method.getModifiers()) + " " + method.getReturnType() + " " + method.getName() + "("
            + names(method.getParameterTypes()) + ")" + (thrown.isEmpty() ? "" : " throws " + thrown) + ";";
    }

    private static String names(Class<?>[] types) {
        return Arrays.stream(types).map(Class::getSimpleName).collect(Collectors.joining(", "));
    }

    /** The line with the parameters' types alone. */
    private static String withoutNames(String line) {
        int open = line.indexOf('(');
        if (open < 0) {
            return line;
        }
        int close = line.indexOf(')');
        return line.substring(0, open + 1) + line.substring(open + 1, close).replaceAll("(\\w+) \\w+", "$1")
            + line.substring(close);
    }

    /** The names of the parameters are those of the document too. */
    private static void isWritten(List<String> face) throws IOException {
        String text = Files.readString(CLASS).replaceAll("\\s+", " ");
        for (String line : face) {
            String asWritten = line.contains("(") ? line.substring(0, line.length() - 1) + " {" : line;
            same(line + " is written so", true, text.contains(asWritten));
        }
    }

    private static void isHidden() {
        Class<?> wall = TheatreWall.class;
        Set<String> publicNames = new TreeSet<>();
        for (Method method : wall.getDeclaredMethods()) {
            if (Modifier.isPublic(method.getModifiers())) {
                publicNames.add(method.getName());
            }
        }
        for (Method method : wall.getDeclaredMethods()) {
            boolean isPrivate = Modifier.isPrivate(method.getModifiers());
            same(method + " bears no public name", false, isPrivate && publicNames.contains(method.getName()));
        }
        for (Class<?> inner : wall.getDeclaredClasses()) {
            int modifiers = inner.getModifiers();
            same(inner + " is static and not public", true, Modifier.isStatic(modifiers)
                && !Modifier.isPublic(modifiers) && !Modifier.isProtected(modifiers));
            for (Method method : inner.getDeclaredMethods()) {
                same(method + " bears no public name", false, publicNames.contains(method.getName()));
            }
        }
    }
}
