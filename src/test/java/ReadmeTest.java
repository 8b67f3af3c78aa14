import java.io.IOException;
import java.nio.charset.StandardCharsets;
import java.nio.file.DirectoryStream;
import java.nio.file.Files;
import java.nio.file.Path;
import java.util.ArrayList;
import java.util.List;
import java.util.TreeSet;
import java.util.regex.Matcher;
import java.util.regex.Pattern;

/** What README.md says is so: its calls, its numbers, its bounds, its tests; it is run from the project's folder. */
public final class ReadmeTest {
    private static final Check check = new Check("ReadmeTest");
    private static final Path README = Path.of("README.md");
    private static final Path TESTS = Path.of("src/test/java");
    private static final Pattern CALL = Pattern.compile("x\\.(\\w+\\([^()]*\\)); *// (-?\\d+)(?:: .*)?");
    private static final Pattern FED = Pattern.compile("x\\.feed\\(0x([0-9a-f]+)L, (\\d)\\);.*\"([^\"]*)\"");

    public static void main(String[] args) throws IOException {
        String readme = Files.readString(README, StandardCharsets.UTF_8);
        List<String> example = example(readme);
        callsAnswer(example);
        lettersAreFed(example);
        allIsShown(example);
        numbers(readme);
        belowZero();
        bounds(readme);
        testsAreNamed(readme);
        check.holds(".ci/run is there and can be run", Files.isExecutable(Path.of(".ci/run")));
        check.close();
    }

    /** The rows of the one piece of Java. */
    private static List<String> example(String readme) {
        int from = readme.indexOf("```java\n");
        int to = readme.indexOf("```\n", from + 8);
        check.holds("there is an example", from >= 0 && to > from);
        return readme.substring(from + 8, to).lines().filter(row -> !row.isEmpty() && !row.startsWith("//")).toList();
    }

    private static void callsAnswer(List<String> example) {
        check.holds("it begins with a new object", example.get(0).equals("DrumWorld x = new DrumWorld();"));
        Run run = new Run(check);
        for (String row : example.subList(1, example.size())) {
            Matcher m = CALL.matcher(row);
            boolean isCall = m.matches();
            check.holds("a call and its answer: " + row, isCall);
            if (isCall) {
                run.due(inDecimals(m.group(1)), Long.parseLong(m.group(2)));
            }
        }
    }

    private static String inDecimals(String call) {
        return Pattern.compile("0x([0-9a-f]+)L").matcher(call)
            .replaceAll(found -> Long.toString(Long.parseLong(found.group(1), 16)));
    }

    private static void lettersAreFed(List<String> example) {
        int fed = 0;
        for (String row : example) {
            Matcher m = FED.matcher(row);
            if (m.matches()) {
                StringBuilder bytes = new StringBuilder();
                m.group(3).chars().forEach(c -> bytes.append(Integer.toHexString(c)));
                check.holds("these letters: " + row, bytes.toString().equals(m.group(1)));
                check.due("so many: " + row, m.group(3).length(), Long.parseLong(m.group(2)));
                fed++;
            }
        }
        check.due("feeds with their letters", fed, example.stream().filter(row -> row.startsWith("x.feed(")).count());
    }

    private static void allIsShown(List<String> example) {
        for (var method : DrumWorld.class.getDeclaredMethods()) {
            if (java.lang.reflect.Modifier.isPublic(method.getModifiers())) {
                check.holds("shown: " + method.getName(),
                    example.stream().anyMatch(row -> row.startsWith("x." + method.getName() + "(")));
            }
        }
    }

    private static void numbers(String readme) {
        int found = 0;
        Matcher m = Pattern.compile("\\| `([A-Z]+)` (-\\d+) \\|").matcher(readme);
        while (m.find()) {
            try {
                check.due(m.group(1), DrumWorld.class.getField(m.group(1)).getLong(null), Long.parseLong(m.group(2)));
            } catch (ReflectiveOperationException e) {
                check.holds("a constant " + m.group(1), false);
            }
            found++;
        }
        check.due("constants", found, 5);
    }

    /** What it says of numbers below 0 that are no refusals, and of calls that change something though they stop. */
    private static void belowZero() {
        Run run = new Run(check, "drum(0, -7, 0) = 0", "clock(0, 0) = -7", "shake(0, 0, 100) = 0", "shell(1, 1, 1) = 0",
            "card(0, 0, 0, 97) = 0", "cardTold(0, 4, 0) = -3", "table(0, 0, 0, 0) = -3", "settle(0, 0) = -3",
            "clock(0, 99) = 0", "place(0, 0, 2) = -2", "place(0, 0, 0) = 0", "refit(0, 1) = 1", "refitTold(0) = -1");
        run.rule("take -2;call -3;").rows("law(0, 0, 0) = -2", "law(0, 1, 0) = -3");
        run.tape("?").rows("text() = -100", "count(7) = 0");
        run.ints(0, 0, 0, 0, 50, 0).rows("cards(0, 2, 0, 2) = -12", "count(4) = 2");
    }

    private static void bounds(String readme) {
        String words = readme.replaceAll("\\s+", " ");
        Matcher m = Pattern.compile("at most (\\d+) shells, (\\d+) drums, (\\d+) shakes, (\\d+) cards, (\\d+) texts "
            + "\\(with the first one\\), (\\d+) bytes on the tape, and (\\d+) sheets of (\\d+) numbers").matcher(words);
        boolean isTold = m.find();
        check.holds("bounds are told", isTold);
        if (isTold) {
            String[] calls = {"shell(1, 1, 1)", "drum(0, 0, 0)", "shake(0, 0, 0)", "card(0, 0, 0, 0)"};
            Run run = new Run(check);
            for (int i = 0; i < calls.length; i++) {
                check.due(calls[i], howOften(run, calls[i]), Long.parseLong(m.group(i + 1)));
            }
            check.due("bytes", howOften(run, "feed(0, 1)"), Long.parseLong(m.group(6)));
            int texts = Integer.parseInt(m.group(5));
            Run reads = new Run(check);
            for (int t = 1; t < texts; t++) {
                reads.tape("take 1;call 1;").rows("text() = " + t);
            }
            reads.rows("text() = FULL");
            int sheets = Integer.parseInt(m.group(7));
            int most = Integer.parseInt(m.group(8));
            reads.all(1, "sheet(0, 2, " + most + ")", "sheet(" + (sheets - 1) + ", 2, " + most + ")");
            reads.all(-2, "sheet(0, 2, " + (most + 1) + ")", "sheet(" + sheets + ", 2, " + most + ")");
        }
        check.holds("calls are told", words.contains("512 times at most"));
    }

    private static int howOften(Run run, String call) {
        int often = 0;
        while (often < 300 && run.answer(call) >= 0) {
            often++;
        }
        return often;
    }

    private static void testsAreNamed(String readme) throws IOException {
        List<String> named = new ArrayList<>();
        readme.lines().filter(row -> row.startsWith("| `") && row.contains("Test` |"))
            .forEach(row -> named.add(row.substring(3, row.indexOf("` |"))));
        TreeSet<String> there = new TreeSet<>();
        try (DirectoryStream<Path> files = Files.newDirectoryStream(TESTS, "*Test.java")) {
            for (Path file : files) {
                there.add(file.getFileName().toString().replace(".java", ""));
            }
        }
        check.due("each is named once", named.size(), there.size());
        check.holds("tests that are there: " + named, new TreeSet<>(named).equals(there));
    }
}
