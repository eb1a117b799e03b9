import java.io.IOException;
import java.nio.file.Files;
import java.nio.file.Path;
import java.util.List;
import java.util.regex.Pattern;

/** What the language's rules ask that can be seen in the source's lines. Runs at the top folder. */
public final class SourceTest {
    private static final Check CHECK = new Check("SourceTest");

    /** None of these is needed, and each is ruled out or allowed in few places only. */
    private static final String[] RULED_OUT = {
        "^\\s*package\\b", "^\\s*import\\b", "->", "::", "\\bcatch\\b", "\\btry\\b", "\\bfinally\\b",
        "\\bsynchronized\\b", "\\bassert\\b", "\\bstatic\\s*\\{", "\\bSystem\\b", "\\w+Exact\\b",
        "\\bequals\\b", "\\bhashCode\\b", "\\btoString\\b", "\\bprotected\\b", "[^\\x00-\\x7f]",
        "/ ", " % ", "\\bnull\\b", "\\binstanceof\\b",
    };
    private static final Pattern CONSTRUCTOR = Pattern.compile(" +(public )?[A-Z]\\w*\\(.*\\) \\{");
    private static final Pattern THROW = Pattern.compile(" +throw new (IllegalArgumentException"
            + "|IllegalStateException|IndexOutOfBoundsException)\\(\"[a-z0-9 ]+\"\\);");

    public static void main(String[] args) throws IOException {
        List<String> lines = Files.readAllLines(Path.of("src/main/java/Roomcolour.java"));
        int constructorIndent = -1;
        int methodIndent = -1;
        int methodStart = 0;
        for (int i = 0; i < lines.size(); i++) {
            String line = lines.get(i);
            String code = line.trim().startsWith("*") || line.trim().startsWith("/*") ? ""
                    : line.replaceAll("//.*", "");
            ruledOut(i + 1, code);
            int indent = line.length() - line.stripLeading().length();
            if (CONSTRUCTOR.matcher(code).matches()) {
                constructorIndent = indent;
            }
            if (code.contains("new ")) {
                CHECK.due("line " + (i + 1) + " makes an object in a constructor or to throw it", 1,
                        constructorIndent >= 0 || THROW.matcher(code).matches() ? 1 : 0);
            }
            if (methodIndent < 0 && (indent == 4 || indent == 8) && code.endsWith(") {")) {
                methodIndent = indent;
                methodStart = i;
            }
            if (code.equals(" ".repeat(Math.max(0, constructorIndent)) + "}")) {
                constructorIndent = -1;
            }
            if (methodIndent >= 0 && code.equals(" ".repeat(methodIndent) + "}")) {
                CHECK.due("the method at line " + (methodStart + 1) + " is short", 1,
                        i - methodStart < 60 ? 1 : 0);
                methodIndent = -1;
            }
        }
        CHECK.end();
    }

    private static void ruledOut(int number, String code) {
        for (String pattern : RULED_OUT) {
            CHECK.due("line " + number + " without " + pattern, 0,
                    Pattern.compile(pattern).matcher(code).find() ? 1 : 0);
        }
    }
}
