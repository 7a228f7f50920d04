import java.io.IOException;
import java.nio.file.Files;
import java.nio.file.Path;
import java.util.Set;
import java.util.TreeSet;
import java.util.regex.Matcher;
import java.util.regex.Pattern;

/** What of ../shared/LANGUAGE.md can be told by the words of the program's text. */
public final class LanguageTest {
    private static final String[] FORBIDDEN = {"\\bthrow\\b", "\\btry\\b", "\\bcatch\\b", "\\bsynchronized\\b",
        "\\bassert\\b", "\\bimport\\b", "\\bpackage\\b", "->", "::", "\\bvar\\b", "\\bprotected\\b", "Exact\\(",
        "\\bSystem\\.(?!arraycopy\\()", "\\bThread\\b", "\\bRandom\\b", "\\bObject\\b", "\\bnative\\b", "\\bstatic\\s*\\{",
        "\"\\s*\\+", "\\+\\s*\"", "\\bInteger\\.(?!bitCount\\()", "\\bLong\\.(?!bitCount\\()", "\\bMath\\.(?!min\\(|max\\()"};

    public static void main(String[] args) throws IOException {
        String source = Files.readString(Path.of("src/main/java/OneWire.java"));
        for (int k = 0; k < source.length(); k++) {
            if (source.charAt(k) > 126) Due.is("rule 4: a sign of the text", source.charAt(k), 126);
        }
        String code = source.replaceAll("(?s)/\\*.*?\\*/", " ").replaceAll("//[^\n]*", " ");
        for (String f : FORBIDDEN) {
            Due.is("forbidden: " + f, Pattern.compile(f).matcher(code).find() ? 1 : 0, 0);
        }
        faces(code);
        sizes(source);
        Due.end();
    }

    /** Rule 1: nothing but the face is to be seen, and no other method bears a name of it. */
    private static void faces(String code) {
        Set<String> face = new TreeSet<>();
        Matcher m = Pattern.compile("\n    public int (\\w+)\\(").matcher(code);
        while (m.find()) face.add(m.group(1));
        Due.is("rule 1: methods", face.size(), 35);
        m = Pattern.compile("\n( {4,8})((?:private |static |final )*)[\\w\\[\\]]+ (\\w+)\\([^;=]*\\{").matcher(code);
        int inner = 0;
        while (m.find()) {
            if (m.group(3).equals("OneWire")) continue;
            Due.is("rule 1: name of the face: " + m.group(3), face.contains(m.group(3)) ? 1 : 0, 0);
            if (m.group(1).length() == 4) Due.is("rule 1: private: " + m.group(3), m.group(2).contains("private") ? 1 : 0, 1);
            inner++;
        }
        Due.is("rule 1: methods inside are looked at", inner > 50 ? 1 : 0, 1);
        m = Pattern.compile("\n    (?!public |private |\\})(\\S.*)").matcher(code);
        while (m.find()) Due.is("rule 1: neither public nor private: " + m.group(1), 1, 0);
        m = Pattern.compile("\n {4}.*\\bclass (\\w+).*").matcher(code);
        int classes = 1;
        while (m.find()) {
            Due.is("rule 2: static: " + m.group(1), m.group().contains(" static ") ? 1 : 0, 1);
            classes++;
        }
        Due.is("rule 11: some twelve classes", classes <= 12 ? 1 : 0, 1);
    }

    /** Rule 11: methods of some sixty lines. */
    private static void sizes(String source) {
        int from = 0;
        String[] lines = source.split("\n");
        for (int k = 0; k < lines.length; k++) {
            if (lines[k].matches(" {4}( {4})?\\S.*\\) \\{")) from = k;
            if (lines[k].matches(" {4}( {4})?\\}") && k - from > 60 && !lines[from].contains("class")) {
                Due.is("rule 11: lines of " + lines[from].trim(), lines[k].startsWith("        ") ? k - from : 0, 0);
            }
            Due.is("a line's length", Math.max(120, lines[k].length()), 120);
        }
    }
}
