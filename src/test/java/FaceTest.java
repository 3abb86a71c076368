import java.lang.reflect.Constructor;
import java.lang.reflect.Field;
import java.lang.reflect.Method;
import java.lang.reflect.Modifier;
import java.util.Arrays;
import java.util.Set;
import java.util.TreeSet;
import java.util.stream.Collectors;

/** That the class has the face of the document, and no other member that is not private. */
public final class FaceTest extends Checks {
    private static final String[] FACE = {
        "int add(int,int,int) IllegalArgumentException,IllegalStateException",
        "int remove(int) IndexOutOfBoundsException",
        "int need(int,int,boolean) IndexOutOfBoundsException,IllegalArgumentException",
        "int change(int,int,int) IndexOutOfBoundsException,IllegalArgumentException",
        "int slip(int,int) IndexOutOfBoundsException,IllegalArgumentException,IllegalStateException",
        "int borrow(int,int,int) IndexOutOfBoundsException,IllegalArgumentException",
        "int rule(int) IllegalArgumentException",
        "int append(int) IllegalArgumentException,IllegalStateException",
        "int clearBuffer() ",
        "int firstError() ",
        "int addAll() IllegalArgumentException,IllegalStateException",
        "int undo() IllegalStateException",
        "int task(int,int) IndexOutOfBoundsException,IllegalArgumentException",
        "int personOn(int,int) IndexOutOfBoundsException",
        "int hallOn(int,int) IndexOutOfBoundsException",
        "int hall(int,int) IndexOutOfBoundsException,IllegalArgumentException",
        "int count(int) IllegalArgumentException",
        "int setting() ",
        "int ifRule(int,int) IllegalArgumentException",
        "int bestRule() ",
        "int ifFreed(int) IndexOutOfBoundsException",
        "int worstSlip(int) IllegalArgumentException",
        "double busyness() ",
        "long digest() "};

    private FaceTest() {
    }

    public static void main(String[] args) {
        Class<?> face = TheatreWall.class;
        same("public and final", Modifier.PUBLIC | Modifier.FINAL, face.getModifiers());
        Set<String> got = new TreeSet<>();
        Set<String> publicNames = new TreeSet<>();
        for (Method method : face.getDeclaredMethods()) {
            if (!Modifier.isPrivate(method.getModifiers())) {
                got.add(written(method));
                publicNames.add(method.getName());
                same(method + " is public alone", Modifier.PUBLIC, method.getModifiers());
            }
        }
        same("the methods", new TreeSet<>(Arrays.asList(FACE)), got);
        Set<String> fields = new TreeSet<>();
        for (Field field : face.getDeclaredFields()) {
            if (!Modifier.isPrivate(field.getModifiers())) {
                fields.add(Modifier.toString(field.getModifiers()) + " " + field.getType() + " " + field.getName());
            }
        }
        same("the constants", Set.of("public static final int NONE"), fields);
        Constructor<?>[] made = face.getDeclaredConstructors();
        same("one constructor", 1, made.length);
        same("the constructor", "public TheatreWall()", made[0].toString());
        for (Class<?> inner : face.getDeclaredClasses()) {
            int modifiers = inner.getModifiers();
            same(inner + " is static and not public", true, Modifier.isStatic(modifiers)
                && !Modifier.isPublic(modifiers) && !Modifier.isProtected(modifiers));
            for (Method method : inner.getDeclaredMethods()) {
                same(method + " bears no public name", false, publicNames.contains(method.getName()));
            }
        }
        for (Method method : face.getDeclaredMethods()) {
            boolean isHidden = Modifier.isPrivate(method.getModifiers());
            same(method + " bears no public name", false, isHidden && publicNames.contains(method.getName()));
        }
        end("FaceTest");
    }

    private static String written(Method method) {
        return method.getReturnType().getSimpleName() + " " + method.getName() + "("
            + names(method.getParameterTypes()) + ") " + names(method.getExceptionTypes());
    }

    private static String names(Class<?>[] types) {
        return Arrays.stream(types).map(Class::getSimpleName).collect(Collectors.joining(","));
    }
}
