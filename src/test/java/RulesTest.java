import java.io.IOException;
import java.lang.reflect.Modifier;
import java.nio.file.Files;
import java.nio.file.Path;
import java.util.regex.Pattern;

/** The rules of LANGUAGE.md that can be told from the text and the shape of the class. */
public final class RulesTest {
    private static final String[] FORBIDDEN = {
        "\\b(throw|throws|try|catch|finally|synchronized|assert|import|package|volatile|native)\\b",
        "->", "::", "\\bstatic\\s*\\{", "\\b(protected|System|Object|Random|Thread)\\b", "\\w+Exact\\b",
        "\\b(hashCode|toString)\\b", "[^\\x00-\\x7f]"};

    public static void main(String[] args) throws IOException {
        String text = Files.readString(Path.of("src/main/java/ZStreams.java"));
        String code = text.replaceAll("(?s)/\\*.*?\\*/", "").replaceAll("//[^\n]*", "");
        for (String pattern : FORBIDDEN) {
            Check.due("the class has " + pattern, Pattern.compile(pattern).matcher(code).find(), false);
        }
        Class<?>[] inside = ZStreams.class.getDeclaredClasses();
        Check.due("at most twelve classes", inside.length < 12, true);
        for (Class<?> one : inside) {
            Check.due(one + " is static", Modifier.isStatic(one.getModifiers()), true);
            Check.due(one + " is not public", Modifier.isPublic(one.getModifiers()), false);
        }
        Check.end();
    }
}
