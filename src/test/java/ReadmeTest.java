import java.io.IOException;
import java.lang.reflect.Method;
import java.lang.reflect.Modifier;
import java.nio.file.Files;
import java.nio.file.Path;
import java.util.ArrayList;
import java.util.List;
import java.util.Set;
import java.util.TreeSet;
import java.util.regex.Matcher;
import java.util.regex.Pattern;

/** The answers that README.md tells, call by call. Runs at the top folder. */
public final class ReadmeTest {
    private static final Check CHECK = new Check("ReadmeTest");
    private static final Pattern CALL =
            Pattern.compile("    x\\.(\\w+)\\(([-0-9, ]*)\\); +// (-?\\d+)(:.*)?");

    public static void main(String[] args) throws IOException, ReflectiveOperationException {
        Roomcolour x = new Roomcolour();
        Set<String> asked = new TreeSet<>();
        for (String line : Files.readAllLines(Path.of("README.md"))) {
            Matcher call = CALL.matcher(line);
            CHECK.due("a call with its answer: " + line, line.startsWith("    x.") ? 1 : 0,
                    call.matches() ? 1 : 0);
            if (call.matches()) {
                asked.add(call.group(1));
                CHECK.due(line.strip(), call.group(3), answer(x, call.group(1), call.group(2)));
            }
        }
        CHECK.due("each call of the face", face().toString(), asked.toString());
        CHECK.end();
    }

    private static String answer(Roomcolour x, String name, String arguments)
            throws ReflectiveOperationException {
        List<Class<?>> types = new ArrayList<>();
        List<Object> values = new ArrayList<>();
        for (String argument : arguments.split(", ")) {
            if (!argument.isEmpty()) {
                types.add(int.class);
                values.add(Integer.valueOf(argument));
            }
        }
        return Roomcolour.class.getDeclaredMethod(name, types.toArray(new Class<?>[0]))
                .invoke(x, values.toArray()).toString();
    }

    private static Set<String> face() {
        Set<String> names = new TreeSet<>();
        for (Method method : Roomcolour.class.getDeclaredMethods()) {
            if (Modifier.isPublic(method.getModifiers())) {
                names.add(method.getName());
            }
        }
        return names;
    }
}
