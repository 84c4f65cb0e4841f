import java.lang.reflect.Method;
import java.lang.reflect.Modifier;
import java.nio.file.Files;
import java.nio.file.Path;
import java.util.HashMap;
import java.util.HashSet;
import java.util.Map;
import java.util.Set;
import java.util.regex.Matcher;
import java.util.regex.Pattern;

/** The calls that README.md shows answer what it says they do, and every call of the face is among them. */
public final class ReadmeTest {
    private static final Due DUE = new Due("ReadmeTest");
    private static final Pattern CALL = Pattern.compile("x\\.(\\w+)\\((.*)\\); +// (true|false|-?\\d+)(:.*)?");

    private final Map<String, Method> face = new HashMap<>();
    private final Set<String> shown = new HashSet<>();
    private BellHours x = null;

    private ReadmeTest() {
        for (Method m : BellHours.class.getDeclaredMethods()) {
            if (Modifier.isPublic(m.getModifiers())) {
                face.put(m.getName(), m);
            }
        }
    }

    public static void main(String[] args) throws Exception {
        ReadmeTest test = new ReadmeTest();
        String[] parts = Files.readString(Path.of("README.md")).split("```java\n");
        DUE.is("runs of calls", 1, parts.length - 1);
        for (String line : parts[parts.length - 1].split("```")[0].split("\n")) {
            test.line(line);
        }
        for (String name : test.face.keySet()) {
            DUE.yes("README.md shows " + name, test.shown.contains(name));
        }
        DUE.end();
    }

    private void line(String line) throws Exception {
        Matcher call = CALL.matcher(line);
        if (call.matches()) {
            Method method = face.get(call.group(1));
            shown.add(call.group(1));
            DUE.is(line, number(call.group(3)), number("" + method.invoke(x, arguments(call.group(2)))));
        } else if (line.equals("BellHours x = new BellHours();")) {
            x = new BellHours();
        } else {
            DUE.yes("neither a call with its answer nor words: " + line, line.isEmpty() || line.startsWith("// "));
        }
    }

    private static Object[] arguments(String listed) {
        String[] parts = listed.isEmpty() ? new String[0] : listed.split(", ");
        Object[] numbers = new Object[parts.length];
        for (int i = 0; i < parts.length; i++) {
            numbers[i] = number(parts[i]);
        }
        return numbers;
    }

    private static int number(String text) {
        if (text.equals("true") || text.equals("false")) {
            return text.equals("true") ? 1 : 0;
        }
        if (text.equals("BellHours.NONE")) {
            return BellHours.NONE;
        }
        if (text.startsWith("1 << ")) {
            return 1 << number(text.substring(5));
        }
        return Integer.decode(text);
    }
}
