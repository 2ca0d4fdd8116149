import java.io.IOException;
import java.nio.file.Files;
import java.nio.file.Path;
import java.util.ArrayList;
import java.util.List;
import java.util.regex.Matcher;
import java.util.regex.Pattern;

/** The examples in README.md answer what it says: "z.sign('A');  // 2: to screen and transcript". */
public final class ReadmeTest {
    private static final Pattern MADE = Pattern.compile("ZStreams z = new ZStreams\\((\\d+)\\);.*");
    private static final Pattern CALLED = Pattern.compile("z\\.(\\w+)\\((.*?)\\);\\s+// (-?\\d+)(: .*)?");

    public static void main(String[] args) throws IOException, ReflectiveOperationException {
        ZStreams z = null;
        for (String row : examples(Files.readString(Path.of("README.md")))) {
            Matcher made = MADE.matcher(row);
            Matcher called = CALLED.matcher(row);
            if (made.matches()) {
                z = new ZStreams(Integer.parseInt(made.group(1)));
            } else {
                Check.due("README.md: \"" + row + "\" tells a call's answer", called.matches() && z != null, true);
                Check.due("README.md: " + row, answerOf(z, called.group(1), called.group(2)),
                    Integer.parseInt(called.group(3)));
            }
        }
        Check.end();
    }

    /** The rows of the java blocks that are no blank ones. */
    private static List<String> examples(String text) {
        List<String> rows = new ArrayList<>();
        Matcher block = Pattern.compile("(?s)```java\n(.*?)```").matcher(text);
        while (block.find()) {
            block.group(1).lines().filter(row -> !row.isBlank()).forEach(rows::add);
        }
        return rows;
    }

    private static Object answerOf(ZStreams z, String name, String written) throws ReflectiveOperationException {
        List<Class<?>> types = new ArrayList<>();
        List<Object> values = new ArrayList<>();
        for (String one : written.isEmpty() ? new String[0] : written.split(", ")) {
            boolean truth = one.equals("true") || one.equals("false");
            types.add(truth ? boolean.class : int.class);
            values.add(truth ? (Object) Boolean.valueOf(one) : (Object) numberOf(one));
        }
        return ZStreams.class.getMethod(name, types.toArray(new Class<?>[0])).invoke(z, values.toArray());
    }

    private static int numberOf(String one) {
        return one.startsWith("'") ? one.charAt(1) : Integer.parseInt(one);
    }
}
