import java.io.IOException;
import java.nio.charset.StandardCharsets;
import java.nio.file.Files;
import java.nio.file.Path;
import java.util.ArrayDeque;
import java.util.ArrayList;
import java.util.Deque;
import java.util.LinkedHashMap;
import java.util.LinkedHashSet;
import java.util.List;
import java.util.Map;
import java.util.Set;
import java.util.regex.Matcher;
import java.util.regex.Pattern;

/** The rules of LANGUAGE.md that can be read off the source; it is run from the project's folder. */
public final class LanguageTest {
    private static final Check check = new Check("LanguageTest");
    private static final Path SOURCE = Path.of("src/main/java/DrumWorld.java");
    private static final Pattern METHOD = Pattern.compile(
        "\n( +)(?:public |private |static |final )*(?:[A-Za-z\\[\\]]+ )?(\\w+)\\(([^()]*)\\) \\{\n");
    private static final Set<String> READING = Set.of("readOr", "readAnd", "readNot", "readCompared", "readSum",
        "readTerm", "readOne");

    public static void main(String[] args) throws IOException {
        String source = Files.readString(SOURCE, StandardCharsets.UTF_8);
        check.holds("signs 1 to 127", source.chars().allMatch(c -> c > 0 && c < 128));
        String code = withoutComments(source);
        words(code);
        library(code);
        texts(code);
        Map<String, String> bodies = methods(code);
        check.holds("methods are found", bodies.size() > 100);
        depths(bodies);
        check.close();
    }

    private static String withoutComments(String source) {
        return source.replaceAll("(?s)/\\*.*?\\*/", "").replaceAll("//[^\n]*", "");
    }

    private static void lacks(String code, String what, String pattern) {
        Matcher m = Pattern.compile(pattern).matcher(code);
        boolean is = m.find();
        if (is) {
            System.out.println("LanguageTest: " + what + ": " + m.group());
        }
        check.holds("no " + what, !is);
    }

    private static void words(String code) {
        String bare = code.replaceAll("\"[^\"\n]*\"", "\"\"");
        for (String word : new String[] {"throw", "throws", "try", "catch", "finally", "synchronized", "assert",
            "package", "import", "volatile", "transient", "native", "strictfp", "instanceof", "protected",
            "double", "float", "var", "yield", "sealed", "interface", "abstract", "record", "Object", "hashCode"}) {
            lacks(bare, word, "\\b" + word + "\\b");
        }
        lacks(bare, "lambda", "->");
        lacks(bare, "method reference", "::");
        lacks(bare, "annotation", "@");
        lacks(bare, "static block", "static\\s*\\{");
        lacks(bare, "endless loop", "while \\(true\\)|for \\(;;\\)|for \\([^;]*;\\s*;");
        lacks(bare, "static field that isn't final", "\\bstatic (?!final|int \\w+\\(|boolean \\w+\\(|String \\w+\\()");
        lacks(bare, "joining of texts by +", "\\+ \"|\" \\+");
    }

    private static void library(String code) {
        Matcher m = Pattern.compile("\\b(Math|Integer|Long|System|Arrays|String|List|ArrayList)\\.(\\w+)").matcher(code);
        Set<String> allowed = Set.of("Math.abs", "Math.max", "Math.min", "Integer.bitCount", "System.arraycopy");
        while (m.find()) {
            check.holds("library: " + m.group(), allowed.contains(m.group()));
        }
    }

    private static void texts(String code) {
        Matcher m = Pattern.compile("(\\w+)\\.(length|charAt|indexOf|substring|equals|format|concat|split|toString)\\(")
            .matcher(code);
        Set<String> allowed = Set.of("letters.length", "letters.charAt", "SIGNS.indexOf", "tape.split");
        while (m.find()) {
            check.holds("text: " + m.group(), allowed.contains(m.group(1) + "." + m.group(2)));
        }
    }

    /** Bodies by name; those of one name are taken together. */
    private static Map<String, String> methods(String code) {
        Map<String, String> bodies = new LinkedHashMap<>();
        Matcher m = METHOD.matcher(code);
        int at = 0;
        while (m.find(at)) {
            int end = code.indexOf("\n" + m.group(1) + "}\n", m.end() - 1);
            String body = code.substring(m.end(), Math.max(m.end(), end));
            check.holds(m.group(2) + " has sixty lines at most", body.split("\n").length <= 60);
            bodies.merge(m.group(2), body, (a, b) -> a + "\n" + b);
            at = m.end() - 1;
        }
        return bodies;
    }

    private static void depths(Map<String, String> bodies) {
        int deepest = 0;
        for (String name : bodies.keySet()) {
            deepest = Math.max(deepest, depth(name, bodies, new ArrayDeque<>()));
        }
        check.holds("calls go eight deep at most: " + deepest, deepest <= 8);
    }

    /** How deep calls go from a method; the reading functions, which call one another, are one. */
    private static int depth(String name, Map<String, String> bodies, Deque<String> open) {
        boolean isReading = READING.contains(name);
        check.holds(name + " does not call itself", !open.contains(name));
        open.push(name);
        int deepest = 0;
        for (String called : isReading ? calledBy(READING, bodies) : calledBy(List.of(name), bodies)) {
            if (!(isReading && READING.contains(called))) {
                deepest = Math.max(deepest, depth(called, bodies, open));
            }
        }
        open.pop();
        return deepest + 1;
    }

    private static Set<String> calledBy(Iterable<String> names, Map<String, String> bodies) {
        Set<String> called = new LinkedHashSet<>();
        for (String name : names) {
            Matcher m = Pattern.compile("\\b(\\w+)\\(").matcher(bodies.get(name));
            List<String> found = new ArrayList<>();
            while (m.find()) {
                found.add(m.group(1));
            }
            found.stream().filter(bodies::containsKey).filter(f -> !f.equals(name)).forEach(called::add);
            check.holds(name + " calls itself in reading alone", READING.contains(name) || !found.contains(name));
        }
        return called;
    }
}
