import java.lang.reflect.Constructor;
import java.lang.reflect.Field;
import java.lang.reflect.Method;
import java.lang.reflect.Modifier;
import java.util.Arrays;
import java.util.Set;
import java.util.TreeSet;
import java.util.stream.Collectors;

/** The public face, as the document writes it, and what the language's rules ask of members. */
public final class FaceTest {
    private static final Check CHECK = new Check("FaceTest");

    private static final String[] METHODS = {
        "int add(int, int, int) throws IllegalArgumentException, IllegalStateException",
        "int remove(int) throws IndexOutOfBoundsException",
        "int move(int, int) throws IndexOutOfBoundsException, IllegalArgumentException",
        "int intervals()",
        "long present()",
        "long overlapping(int) throws IndexOutOfBoundsException",
        "int rooms()",
        "int roomOf(int) throws IndexOutOfBoundsException",
        "int depth(int) throws IllegalArgumentException",
        "int busiest()",
        "int earliest(int, int) throws IllegalArgumentException",
        "int heaviest()",
        "long chosen()",
        "int most()",
        "int heaviestIn(int) throws IllegalArgumentException",
        "int lossWithout(int, int) throws IndexOutOfBoundsException, IllegalArgumentException",
        "int openDesk(int) throws IllegalArgumentException",
        "int offer(int) throws IndexOutOfBoundsException, IllegalStateException",
        "long accepted()",
        "int acceptedWeight()",
        "int droppedWeight()",
        "int bestOfOffered()",
        "int depthRound(int) throws IllegalArgumentException, IllegalStateException",
        "int heaviestRound(int) throws IllegalArgumentException, IllegalStateException",
    };

    public static void main(String[] args) {
        face();
        members(Roomcolour.class);
        for (Class<?> inner : Roomcolour.class.getDeclaredClasses()) {
            int modifiers = inner.getModifiers();
            CHECK.due(inner + " is static", 1, yes(Modifier.isStatic(modifiers)));
            CHECK.due(inner + " is hidden", 0,
                    yes(Modifier.isPublic(modifiers) || Modifier.isProtected(modifiers)));
            members(inner);
        }
        CHECK.due("at most twelve classes", 1,
                yes(Roomcolour.class.getDeclaredClasses().length < 12));
        CHECK.end();
    }

    private static void face() {
        Class<?> face = Roomcolour.class;
        CHECK.due("public and final", 1,
                yes(Modifier.isPublic(face.getModifiers()) && Modifier.isFinal(face.getModifiers())));
        CHECK.due("no package", "", face.getPackageName());
        CHECK.due("methods", new TreeSet<>(Arrays.asList(METHODS)).toString(),
                notPrivateMethods(face).toString());
        StringBuilder constructors = new StringBuilder();
        for (Constructor<?> constructor : face.getDeclaredConstructors()) {
            constructors.append(constructor.toGenericString()).append(';');
        }
        CHECK.due("constructors", "public Roomcolour();", constructors.toString());
        StringBuilder fields = new StringBuilder();
        for (Field field : face.getDeclaredFields()) {
            if (!Modifier.isPrivate(field.getModifiers())) {
                fields.append(field.toGenericString()).append(';');
            }
        }
        CHECK.due("fields", "public static final int Roomcolour.NONE;", fields.toString());
    }

    private static Set<String> notPrivateMethods(Class<?> face) {
        Set<String> found = new TreeSet<>();
        for (Method method : face.getDeclaredMethods()) {
            int modifiers = method.getModifiers();
            if (Modifier.isPrivate(modifiers)) {
                continue;
            }
            CHECK.due(method + " is public and no more", Modifier.PUBLIC, modifiers);
            String thrown = names(method.getExceptionTypes());
            found.add(method.getReturnType() + " " + method.getName()
                    + "(" + names(method.getParameterTypes()) + ")"
                    + (thrown.isEmpty() ? "" : " throws " + thrown));
        }
        return found;
    }

    private static String names(Class<?>[] classes) {
        return Arrays.stream(classes).map(Class::getSimpleName).collect(Collectors.joining(", "));
    }

    private static void members(Class<?> type) {
        Set<String> publicNames = new TreeSet<>();
        for (Method method : Roomcolour.class.getDeclaredMethods()) {
            if (Modifier.isPublic(method.getModifiers())) {
                publicNames.add(method.getName());
            }
        }
        for (Method method : type.getDeclaredMethods()) {
            CHECK.due(method + " has at most seven parameters", 1,
                    yes(method.getParameterCount() <= 7));
            boolean ofTheFace = type == Roomcolour.class && Modifier.isPublic(method.getModifiers());
            CHECK.due(method + " bears no name of the face", 1,
                    yes(ofTheFace || !publicNames.contains(method.getName())));
        }
        int fields = 0;
        for (Field field : type.getDeclaredFields()) {
            if (Modifier.isStatic(field.getModifiers())) {
                CHECK.due(field + " is final", 1, yes(Modifier.isFinal(field.getModifiers())));
                CHECK.due(field + " is a number", 1, yes(field.getType().isPrimitive()));
            } else {
                fields++;
            }
        }
        CHECK.due(type + " has at most twenty fields", 1, yes(fields <= 20));
    }

    private static int yes(boolean right) {
        return right ? 1 : 0;
    }
}
