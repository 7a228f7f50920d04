import java.io.ByteArrayOutputStream;
import java.io.File;
import java.io.PrintStream;
import java.lang.reflect.Field;
import java.lang.reflect.Method;
import java.lang.reflect.Modifier;
import java.net.URI;
import java.util.ArrayList;
import java.util.Arrays;
import java.util.HashMap;
import java.util.HashSet;
import java.util.List;
import java.util.Map;
import java.util.Set;
import java.util.TreeSet;
import java.util.regex.Matcher;
import java.util.regex.Pattern;
import java.util.spi.ToolProvider;

/** What of ../shared/LANGUAGE.md is told by the compiled classes: how deep calls go, which call themselves, and sizes. */
public final class DepthTest {
    private static final Pattern CLASS = Pattern.compile("^.*\\b(?:class|interface) (OneWire[\\w$]*).*\\{$");
    private static final Pattern HEAD = Pattern.compile("^ {2}\\S.*?([\\w$.]+)\\(.*\\);$");
    private static final Pattern CALL = Pattern.compile("// (?:Interface)?Method (?:([\\w$/]+)\\.)?\"?([\\w<>$]+)\"?:\\(");

    /** By each method (class.name) those that it calls, the library's too. */
    private static final Map<String, Set<String>> CALLS = new HashMap<>();
    private static int deepest = 0;
    private static List<String> way = new ArrayList<>();

    private static String compiled(Class<?>[] classes) throws Exception {
        URI place = OneWire.class.getProtectionDomain().getCodeSource().getLocation().toURI();
        List<String> words = new ArrayList<>(List.of("-c", "-p"));
        for (Class<?> c : classes) words.add(new File(new File(place), c.getName() + ".class").getPath());
        ByteArrayOutputStream bytes = new ByteArrayOutputStream();
        PrintStream out = new PrintStream(bytes, true);
        Due.is("javap", ToolProvider.findFirst("javap").orElseThrow().run(out, out, words.toArray(String[]::new)), 0);
        return bytes.toString();
    }

    private static void read(String text) {
        String inClass = "", method = "";
        for (String line : text.split("\n")) {
            Matcher m = CLASS.matcher(line);
            if (m.matches()) {
                inClass = m.group(1);
                continue;
            }
            m = HEAD.matcher(line);
            if (m.matches()) {
                String name = m.group(1).equals(inClass) ? "<init>" : m.group(1);
                method = inClass + "." + name;
                CALLS.computeIfAbsent(method, k -> new TreeSet<>());
                continue;
            }
            m = CALL.matcher(line);
            if (!m.find() || method.isEmpty()) continue;
            CALLS.get(method).add((m.group(1) == null ? inClass : m.group(1)) + "." + m.group(2));
        }
    }

    /** Goes all ways from a method, each method once on a way. */
    private static void go(String method, List<String> before) {
        List<String> here = new ArrayList<>(before);
        here.add(method);
        if (here.size() > deepest) {
            deepest = here.size();
            way = here;
        }
        for (String next : CALLS.getOrDefault(method, Set.of())) {
            if (!here.contains(next)) go(next, here);
        }
    }

    private static boolean leadsTo(String from, String to, Set<String> seen) {
        for (String next : CALLS.getOrDefault(from, Set.of())) {
            if (next.equals(to) || seen.add(next) && leadsTo(next, to, seen)) return true;
        }
        return false;
    }

    private static void sizes(Class<?>[] classes) {
        Due.is("rule 11: some twelve classes", Math.max(12, classes.length), 12);
        for (Class<?> c : classes) {
            int fields = 0;
            for (Field f : c.getDeclaredFields()) {
                if (!Modifier.isStatic(f.getModifiers())) fields++;
                else Due.is("rule 5: final: " + f, Modifier.isFinal(f.getModifiers()) ? 1 : 0, 1);
            }
            Due.is("rule 11: fields of " + c.getName(), Math.max(20, fields), 20);
            for (Method m : c.getDeclaredMethods()) {
                Due.is("rule 11: parameters of " + m, Math.max(7, m.getParameterCount()), 7);
            }
        }
    }

    public static void main(String[] args) throws Exception {
        List<Class<?>> all = new ArrayList<>(Arrays.asList(OneWire.class.getDeclaredClasses()));
        all.add(OneWire.class);
        Class<?>[] classes = all.toArray(Class<?>[]::new);
        sizes(classes);
        read(compiled(classes));
        Due.is("methods are read", CALLS.size() > 120 ? 1 : 0, 1);
        for (Method m : OneWire.class.getDeclaredMethods()) {
            if (!Modifier.isPublic(m.getModifiers())) continue;
            Due.is("the face is read: " + m.getName(), CALLS.containsKey("OneWire." + m.getName()) ? 1 : 0, 1);
            go("OneWire." + m.getName(), List.of());
        }
        System.out.println("deepest: " + String.join(" ", way));
        Due.is("rule 11: eight deep", Math.max(8, deepest), 8);
        Set<String> again = new TreeSet<>();
        for (String method : CALLS.keySet()) if (leadsTo(method, method, new HashSet<>())) again.add(method);
        // each of these carries its depth as an argument
        Set<String> may = Set.of("OneWire$Tape.any", "OneWire$Tape.all", "OneWire$Tape.one", "OneWire$Codes.choose",
            "OneWire$Codes.put", "OneWire$Division.choose", "OneWire$Division.put");
        Due.is("rule 8: these call themselves: " + again, again.equals(may) ? 1 : 0, 1);
        Due.end();
    }
}
