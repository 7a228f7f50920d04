import java.io.IOException;
import java.lang.reflect.Method;
import java.nio.file.Files;
import java.nio.file.Path;
import java.util.Arrays;
import java.util.HashMap;
import java.util.Map;
import java.util.regex.Matcher;
import java.util.regex.Pattern;

/** The examples of README.md: each call answers what its remark begins with. */
public final class ReadmeTest {
    private static final Pattern CALL = Pattern.compile("(?:int (\\w+) = )?wire\\.(\\w+)\\((.*)\\);\\s+// (-?\\d+)(?::.*)?");
    private static final Pattern TEXT = Pattern.compile("wire\\.feed\\(0x(\\w+)L, (\\d)\\);.*\"(.*)\"");

    private static Object argument(String text, Class<?> type, Map<String, Integer> names) {
        if (type == boolean.class) return Boolean.valueOf(text);
        if (type == long.class) return Long.decode(text.replace("L", ""));
        return names.containsKey(text) ? names.get(text) : Integer.decode(text);
    }

    private static int answer(OneWire wire, String name, String words, Map<String, Integer> names) throws Exception {
        Method call = Arrays.stream(OneWire.class.getMethods()).filter(m -> m.getName().equals(name)).findFirst().orElseThrow();
        String[] parts = words.isEmpty() ? new String[0] : words.split(", ");
        Object[] arguments = new Object[parts.length];
        for (int k = 0; k < parts.length; k++) arguments[k] = argument(parts[k], call.getParameterTypes()[k], names);
        return (int) call.invoke(wire, arguments);
    }

    /** What a remark says is fed is what the number has. */
    private static void fed(String line) {
        Matcher m = TEXT.matcher(line);
        if (!m.find()) return;
        StringBuilder text = new StringBuilder();
        for (int k = 0; k < m.group(1).length(); k += 2) text.append((char) Integer.parseInt(m.group(1).substring(k, k + 2), 16));
        Due.is(line + " feeds what it says", text.toString().equals(m.group(3)) ? 1 : 0, 1);
        Due.is(line + " feeds as many", Integer.parseInt(m.group(2)), text.length());
    }

    private static String[] examples() throws IOException {
        StringBuilder lines = new StringBuilder();
        Matcher m = Pattern.compile("(?s)```java\n(.*?)```").matcher(Files.readString(Path.of("README.md")));
        while (m.find()) lines.append(m.group(1));
        return lines.toString().split("\n");
    }

    public static void main(String[] args) throws Exception {
        OneWire wire = new OneWire();
        Map<String, Integer> names = new HashMap<>();
        int calls = 0;
        for (String line : examples()) {
            if (line.equals("OneWire wire = new OneWire();")) continue;
            Matcher m = CALL.matcher(line);
            Due.is("an example can be read: " + line, m.matches() ? 1 : 0, 1);
            if (!m.matches()) continue;
            int got = answer(wire, m.group(2), m.group(3), names);
            Due.is(line, got, Integer.parseInt(m.group(4)));
            if (m.group(1) != null) names.put(m.group(1), got);
            fed(line);
            calls++;
        }
        Due.is("examples are read", calls > 15 ? 1 : 0, 1);
        Due.end();
    }
}
