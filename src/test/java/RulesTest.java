import java.io.IOException;
import java.lang.reflect.Field;
import java.lang.reflect.Method;
import java.lang.reflect.Modifier;
import java.nio.file.Files;
import java.nio.file.Path;
import java.util.HashSet;
import java.util.Set;
import java.util.regex.Matcher;
import java.util.regex.Pattern;

/** The rules of LANGUAGE.md that can be told from the text and the shape of the class. */
public final class RulesTest {
    private static final String[] FORBIDDEN = {
        "\\b(throw|throws|try|catch|finally|synchronized|assert|import|package|volatile|native)\\b",
        "->", "::", "\\bstatic\\s*\\{", "\\b(protected|System|Object|Random|Thread)\\b", "\\w+Exact\\b",
        "\\b(hashCode|toString)\\b", "[^\\x00-\\x7f]"};

    public static void main(String[] args) throws IOException {
        String text = Files.readString(Path.of("src/main/java/ZStreams.java"));
        String code = text.replaceAll("(?s)/\\*.*?\\*/", "").replaceAll("//[^\n]*", "");
        for (String pattern : FORBIDDEN) {
            Check.due("the class has " + pattern, Pattern.compile(pattern).matcher(code).find(), false);
        }
        libraryOf(code);
        methodsOf(code);
        Class<?>[] inside = ZStreams.class.getDeclaredClasses();
        Check.due("at most twelve classes", inside.length < 12, true);
        membersOf(ZStreams.class);
        for (Class<?> one : inside) {
            Check.due(one + " is static", Modifier.isStatic(one.getModifiers()), true);
            Check.due(one + " is not public", Modifier.isPublic(one.getModifiers()), false);
            membersOf(one);
        }
        privateNames();
        Check.end();
    }

    private static void libraryOf(String code) {
        Set<String> called = new HashSet<>();
        Matcher call = Pattern.compile("\\b([A-Z]\\w*\\.\\w+)\\(").matcher(code);
        while (call.find()) {
            called.add(call.group(1));
        }
        called.removeAll(Set.of("Math.max", "Math.min", "Math.floorMod", "Player.canBeReady"));
        Check.due("calls beside Math's and the class's own", called, Set.of());
    }

    /** Constructors are left out: they alone make objects, so that no call uses the room up. */
    private static void methodsOf(String code) {
        int found = 0;
        Matcher method = Pattern.compile("(?ms)^( +)(?:\\w+ )*(?:int|boolean|void) (\\w+)\\([^)]*\\) \\{\n(.*?)^\\1\\}")
            .matcher(code);
        while (method.find()) {
            found++;
            String name = method.group(2);
            Check.due(name + " is short", method.group(3).lines().count() <= 60, true);
            Check.due(name + " makes an object", Pattern.compile("\\bnew\\b").matcher(method.group(3)).find(), false);
        }
        int declared = ZStreams.class.getDeclaredMethods().length;
        for (Class<?> one : ZStreams.class.getDeclaredClasses()) {
            declared += one.getDeclaredMethods().length;
        }
        Check.due("methods looked at", found, declared);
    }

    private static void membersOf(Class<?> one) {
        int fields = 0;
        for (Field field : one.getDeclaredFields()) {
            boolean constant = Modifier.isStatic(field.getModifiers());
            Check.due(field + " is final if it is static", !constant || Modifier.isFinal(field.getModifiers()), true);
            fields += constant ? 0 : 1;
        }
        Check.due(one + " has at most twenty fields", fields <= 20, true);
        for (Method method : one.getDeclaredMethods()) {
            Check.due(method + " has at most seven parameters", method.getParameterCount() <= 7, true);
        }
    }

    private static void privateNames() {
        Set<String> names = new HashSet<>();
        for (Method method : ZStreams.class.getMethods()) {
            names.add(method.getName());
        }
        for (Method method : ZStreams.class.getDeclaredMethods()) {
            boolean hidden = !Modifier.isPublic(method.getModifiers());
            Check.due(method + " bears a public one's name", hidden && names.contains(method.getName()), false);
        }
    }
}
