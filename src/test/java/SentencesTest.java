import java.io.IOException;
import java.nio.charset.StandardCharsets;
import java.nio.file.DirectoryStream;
import java.nio.file.Files;
import java.nio.file.Path;
import java.util.ArrayList;
import java.util.List;
import java.util.regex.Matcher;
import java.util.regex.Pattern;

/**
 * The words that the tests are asked by stand in the document as they stand there, and no sentence of
 * the document's terms and promises is left without a test; it is run from the project's folder.
 */
public final class SentencesTest {
    private static final Check check = new Check("SentencesTest");
    private static final Path DOCUMENT = Path.of("../shared/DOC.md");
    private static final Path TESTS = Path.of("src/test/java");
    private static final Pattern SAYING = Pattern.compile("check\\.says\\(((?:\"(?:[^\"\\\\]|\\\\.)*\"|\\s|\\+)*)\\)");
    private static final Pattern LETTERS = Pattern.compile("\"((?:[^\"\\\\]|\\\\.)*)\"");

    /** What binds sentences together, and names no case of its own. */
    private static final List<String> BETWEEN = List.of("and", "and SLOW for each SORT (tenths of a second for a unit)",
        "KINDS of times: SORT, and what is DUE (tenths of a second behind the shake) for FAR, DEPTH",
        "Of a CARD as KNOWN on a DAY", "A CARD is", "A REFIT", "WATCH of PLACES by a SHEET");

    public static void main(String[] args) throws IOException {
        String document = withoutHeads(Files.readString(DOCUMENT, StandardCharsets.UTF_8));
        boolean[] isAsked = new boolean[document.length()];
        for (String saying : sayings()) {
            int at = document.indexOf(saying);
            check.holds("the document says \"" + saying + "\"", at >= 0);
            for (; at >= 0; at = document.indexOf(saying, at + 1)) {
                java.util.Arrays.fill(isAsked, at, at + saying.length(), true);
            }
        }
        for (String rest : unasked(document, isAsked)) {
            check.holds("asked: \"" + rest + "\"", BETWEEN.contains(rest));
        }
        check.close();
    }

    /** Terms and promises, in one line, without headings, the calls' faces, and what stands ahead of calls. */
    private static String withoutHeads(String document) {
        int from = document.indexOf("## Terms");
        int to = document.indexOf("## Not promised");
        check.holds("there are terms and promises", from >= 0 && to > from);
        String used = document.lines().filter(line -> line.startsWith("An object is used for")).findFirst().orElse("");
        String terms = document.substring(Math.max(0, from), Math.max(0, to)).replaceAll("(?m)^##.*$|^```.*$|^Ahead of the calls.*$", " ")
            .replaceAll("(?m)^`[^`\n]*`:", " ").replaceAll("======== \\d", " ");
        return (used + " " + terms).replaceAll("\\s+", " ");
    }

    private static List<String> sayings() throws IOException {
        List<String> found = new ArrayList<>();
        try (DirectoryStream<Path> files = Files.newDirectoryStream(TESTS, "*Test.java")) {
            for (Path file : files) {
                Matcher m = SAYING.matcher(Files.readString(file, StandardCharsets.UTF_8));
                while (m.find()) {
                    StringBuilder saying = new StringBuilder();
                    LETTERS.matcher(m.group(1)).results().forEach(part -> saying.append(part.group(1)));
                    found.add(saying.toString());
                }
            }
        }
        check.holds("there are many sayings: " + found.size(), found.size() > 130);
        return found;
    }

    private static List<String> unasked(String document, boolean[] isAsked) {
        List<String> found = new ArrayList<>();
        StringBuilder rest = new StringBuilder();
        for (int i = 0; i <= document.length(); i++) {
            if (i < document.length() && !isAsked[i]) {
                rest.append(document.charAt(i));
                continue;
            }
            String words = rest.toString().replaceAll("^[\\s,.:;()]+|[\\s,.:;()]+$", "");
            // A ) is taken off at the end only where no ( stands ahead of it.
            String whole = words.contains("(") && !words.contains(")") ? words + ")" : words;
            if (!whole.isEmpty()) {
                found.add(whole);
            }
            rest.setLength(0);
        }
        return found;
    }
}
