import java.lang.reflect.Constructor;
import java.lang.reflect.Field;
import java.lang.reflect.Method;
import java.lang.reflect.Modifier;
import java.util.Arrays;
import java.util.Collections;
import java.util.List;
import java.util.Map;
import java.util.Set;
import java.util.TreeSet;

/** The public face, and promise 1: a new object. */
public final class FaceTest {
    private static final String[] METHODS = {
        "choose int boolean int", "sign int", "depth", "table int int", "shown int", "transcript boolean",
        "peek int", "poke int int", "answer int", "fileOf int int", "byteOf int int", "drop int",
        "save int int", "load int int", "type int", "source boolean", "line int", "lineAt int",
        "sound int int int int", "ended", "sounds int", "order int int", "told int"};

    public static void main(String[] args) throws ReflectiveOperationException {
        constants();
        members();
        versions();
        newObject();
        Check.end();
    }

    private static void constants() throws ReflectiveOperationException {
        String[] names = {"UNKNOWN", "OUTSIDE", "STATE", "ROOM", "REFUSED", "NONE"};
        int[] values = {-1, -2, -3, -4, -5, -9};
        for (int i = 0; i < names.length; i++) {
            Field field = ZStreams.class.getField(names[i]);
            Check.due(names[i], field.getInt(null), values[i]);
            Check.due(names[i] + " is final", Modifier.isFinal(field.getModifiers()), true);
        }
        Check.due("public fields", ZStreams.class.getFields().length, names.length);
    }

    private static void members() {
        Check.due("class", ZStreams.class.getModifiers(), Modifier.PUBLIC | Modifier.FINAL);
        Set<String> found = new TreeSet<>();
        for (Method m : ZStreams.class.getDeclaredMethods()) {
            if (!Modifier.isPrivate(m.getModifiers())) {
                StringBuilder text = new StringBuilder(m.getName());
                for (Class<?> type : m.getParameterTypes()) {
                    text.append(' ').append(type.getName());
                }
                found.add(text.toString());
                Check.due(m.getName() + " answers", m.getReturnType(), int.class);
                Check.due(m.getName() + " is public", m.getModifiers(), Modifier.PUBLIC);
            }
        }
        Check.due("methods", found, new TreeSet<>(Arrays.asList(METHODS)));
        for (Field f : ZStreams.class.getDeclaredFields()) {
            int kind = f.getModifiers() & (Modifier.PUBLIC | Modifier.PRIVATE);
            Check.due(f.getName() + " is private or public", kind != 0, true);
        }
        Constructor<?>[] made = ZStreams.class.getDeclaredConstructors();
        Check.due("constructors", made.length, 1);
        Check.due("constructor", Modifier.isPublic(made[0].getModifiers()), true);
    }

    private static void versions() {
        int[] asked = {Check.LEAST, -1, 0, 1, 2, 3, 4, 5, 6, 7, 8, 9, 100, Check.MOST};
        int[] due = {1, 1, 1, 1, 2, 3, 4, 5, 6, 7, 8, 8, 8, 8};
        for (int i = 0; i < asked.length; i++) {
            Check.due("version " + asked[i], new ZStreams(asked[i]).told(11), due[i]);
        }
        Check.due("version 0 has no tables", new ZStreams(0).choose(3, true, 0), Check.UNKNOWN);
        Check.due("version 99 has tables", new ZStreams(99).choose(3, true, 0), 1);
    }

    private static void newObject() {
        Map<String, Object> seen = new Machine(5).sight();
        for (String name : seen.keySet()) {
            Check.due("new " + name, seen.get(name), ofNewObject(name));
        }
        Machine x = new Machine(5);
        Check.due("screen is on at first, transcript is not", x.sign(65), 1);
        Machine y = new Machine(5);
        Check.due("objects share nothing", y.told(0), 0);
    }

    /** What is due of a new object of version 5, by the names of Sight. */
    private static Object ofNewObject(String name) {
        return switch (name) {
            case "typed signs" -> Collections.nCopies(60, List.of(Check.STATE, Check.NONE)).stream()
                .flatMap(List::stream).toList();
            case "answers" -> Collections.nCopies(9, List.of(0, Check.REFUSED, 0, 0, 0, 0, 0, 0)).stream()
                .flatMap(List::stream).toList();
            case "rest of the source" -> List.of();
            case "screen" -> List.of(1, 65);
            case "told 11" -> 5;
            case "told 7", "told 8", "told 9", "sounds 0" -> Check.NONE;
            default -> switch (name.split(" ")[0]) {
                case "peek", "told", "sounds", "length", "depth" -> 0;
                case "kind", "shown", "lineAt" -> Check.NONE;
                default -> Check.UNKNOWN;
            };
        };
    }
}
