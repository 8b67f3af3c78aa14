import java.util.ArrayDeque;
import java.util.Arrays;
import java.util.Deque;
import java.util.Random;
import java.util.stream.Collectors;

/**
 * Made-up runs of all calls mixed, most of them such as can be done, some with numbers at and beyond
 * all bounds, against the whole face by the plainer telling.
 */
public final class WholeTwinTest {
    private static final Check check = new Check("WholeTwinTest");
    private static final int RUNS = 100, CALLS = 512;

    /** Each call with the least and the most of its numbers; d, s, c, t, k stand for those that there are, D for days. */
    private static final String[] FACE = {
        "shell 1..150 1..99 0..99", "pace k 0..1 0..99", "due 0..5 0..180 0..99", "shadow 0..1 0..1",
        "drum 0..359 -99..99 0..9", "clock d -99..99", "shake 0..359 0..99 0..40000", "days 1..30",
        "card 0..5 d s 0..60000", "mend c 0..60000", "wrong c 0..1", "cardTold c 0..6 D",
        "text", "force t", "law c 0..1 D", "place s D 0..3", "settle s D", "table 0..1 0..17 D 0..1",
        "refit D 1..9999", "refitTold 0..2", "called c 0..9999 D", "strange D", "watch 0..3 0..8 0..180", "watched",
        "shakeTold s 0..2", "count 0..7", "image", "back", "sheet 0..3 -1..2 0..40", "cell 0..3 0..39 0..359",
        "copy 0..3 0..20 0..3 0..20 0..20", "cards 0..3 0..2 0..20 0..10", "taken c 0..5"};

    private final Random random;
    private final String run;
    private final Run x = new Run(check);
    private final WholeTwin twin = new WholeTwin();
    private final Deque<String> ahead = new ArrayDeque<>();
    private int calls;
    private int refused;

    private WholeTwinTest(int seed) {
        random = new Random(seed);
        run = "run " + seed;
    }

    public static void main(String[] args) {
        int refused = 0;
        for (int seed = 0; seed < RUNS && check.wrongSoFar() < 10; seed++) {
            WholeTwinTest test = new WholeTwinTest(seed);
            test.build();
            while (test.calls < CALLS && check.wrongSoFar() < 10) {
                test.call(test.next());
            }
            refused += test.refused;
        }
        check.holds("many are refused: " + refused, refused > RUNS * CALLS / 10);
        check.holds("most are not: " + refused, refused < RUNS * CALLS / 2);
        check.close();
    }

    private int in(int least, int most) {
        return least + random.nextInt(most - least + 1);
    }

    private void call(String row) {
        int open = row.indexOf('(');
        String inside = row.substring(open + 1, row.length() - 1);
        long[] numbers = inside.isEmpty() ? new long[0]
            : Arrays.stream(inside.split(", ")).mapToLong(Long::parseLong).toArray();
        long want = twin.call(row.substring(0, open), numbers);
        calls++;
        refused += want < 0 ? 1 : 0;
        check.due(run + ", call " + calls + ", " + row, x.answer(row), want);
    }

    /** Something of each, so that what comes then has something to be done with. */
    private void build() {
        ahead.add("shell(" + in(1, 118) + ", " + in(1, 20) + ", " + in(0, 30) + ")");
        for (String row : new String[] {"shell 1..118 1..20 1..30", "shell 1..118 1..99 0..99", "drum 0..359 -99..99 0..9",
            "drum 0..359 -99..99 0..9", "drum 0..359 -99..99 0..9", "shake 0..359 0..99 0..40000"}) {
            if (random.nextInt(8) > 0) {
                ahead.add(made(row));
            }
        }
    }

    private String next() {
        if (ahead.isEmpty()) {
            plan();
        }
        return ahead.poll();
    }

    private void plan() {
        switch (in(0, 24)) {
            case 0: planText(); break;
            case 1: planCardsOfSheet(); break;
            case 2: planWatch(); break;
            case 3: case 4: case 5: case 6: planCard(); break;
            case 7: case 8: ahead.add(made("cardTold c 3..4 D")); break;
            case 9: case 10: planTable(); break;
            case 11: ahead.add(made("place s D 0..3")); break;
            default: ahead.add(made(FACE[in(0, FACE.length - 1)]));
        }
    }

    /** Where one of the cards stands, so that there is something to be told. */
    private void planTable() {
        if (!twin.cards.isEmpty()) {
            Twin.Card card = twin.cards.get(in(0, twin.cards.size() - 1));
            int bin = Math.min(17, Twin.apart(card.drum.place, card.shake.place) / 10);
            int known = in(card.day, twin.day);
            for (int part = 0; part < 2; part++) {
                ahead.add("table(" + Twin.sortOf(card.kind) + ", " + bin + ", " + known + ", " + part + ")");
            }
        }
        ahead.add(made("law c 0..1 D"));
    }

    private void planText() {
        String text = random.nextBoolean() ? TextTwinTest.madeUp(random)
            : "take late < " + in(50, 9999) + " and noise < " + in(1, 10) + ";call kind;";
        String fed = random.nextInt(3) == 0 ? TextTwinTest.broken(text, random) : text;
        for (int i = 0; i < fed.length(); i += 8) {
            String part = fed.substring(i, Math.min(fed.length(), i + 8));
            // What stands above the lowest bytes does not matter.
            long w = random.nextLong();
            for (char c : part.toCharArray()) {
                w = w << 8 | c;
            }
            ahead.add("feed(" + w + ", " + part.length() + ")");
        }
        ahead.add("text()");
        ahead.add(made("force t"));
    }

    private String cardNumbers() {
        int s = in(0, Math.max(0, twin.shakes.size() - 1));
        int d = in(0, Math.max(0, twin.drums.size() - 1));
        Twin.Card card = new Twin.Card();
        card.kind = in(0, 5);
        int time = in(0, 60000);
        if (!twin.shakes.isEmpty() && !twin.drums.isEmpty()) {
            card.drum = twin.drums.get(d);
            card.shake = twin.shakes.get(s);
            int late = twin.late(card, card.kind, 0);
            time = late == Twin.NEVER ? time : -late + in(-60, 60) * (random.nextInt(4) == 0 ? 30 : 1);
        }
        return card.kind + ", " + d + ", " + s + ", " + Math.max(0, Math.min(9999999, time));
    }

    private void planCard() {
        ahead.add("card(" + cardNumbers() + ")");
    }

    private void planCardsOfSheet() {
        int s = in(0, 3);
        int n = in(1, 3);
        int sort = in(0, 2);
        int from = in(0, 3);
        ahead.add("sheet(" + s + ", " + sort + ", " + Math.max(0, from + 4 * n - random.nextInt(2)) + ")");
        for (int k = 0; k < n; k++) {
            String[] numbers = cardNumbers().split(", ");
            for (int i = 0; i < 4; i++) {
                ahead.add("cell(" + s + ", " + (from + 4 * k + i) + ", " + numbers[i] + ")");
            }
        }
        if (random.nextBoolean()) {
            ahead.add("copy(" + s + ", " + from + ", " + s + ", " + Math.max(0, from - 1) + ", " + 4 * n + ")");
        }
        ahead.add("cards(" + s + ", " + sort + ", " + from + ", " + n + ")");
    }

    private void planWatch() {
        int s = in(0, 3);
        int n = in(0, 6);
        ahead.add("sheet(" + s + ", " + in(0, 2) + ", " + n + ")");
        for (int i = 0; i < n; i++) {
            ahead.add("cell(" + s + ", " + i + ", " + in(0, 359) + ")");
        }
        ahead.add("watch(" + s + ", " + in(0, 8) + ", " + in(0, random.nextBoolean() ? 40 : 180) + ")");
        ahead.add("watched()");
    }

    private String made(String row) {
        String[] words = row.split(" ");
        return Arrays.stream(words).skip(1).map(this::number).collect(Collectors.joining(", ", words[0] + "(", ")"));
    }

    private String number(String word) {
        int[] bounds = bounds(word);
        int[] edges = {bounds[0], bounds[1], bounds[0] - 1, bounds[1] + 1, -1, -2, Integer.MIN_VALUE, Integer.MAX_VALUE,
            200, 255, 9999999, 10000000, 99999, 32768, random.nextInt()};
        return "" + (random.nextInt(14) == 0 ? edges[in(0, edges.length - 1)] : in(bounds[0], bounds[1]));
    }

    private int[] bounds(String word) {
        switch (word) {
            case "k": return new int[] {0, Math.max(0, twin.shells.size() - 1)};
            case "d": return new int[] {0, Math.max(0, twin.drums.size() - 1)};
            case "s": return new int[] {0, Math.max(0, twin.shakes.size() - 1)};
            case "c": return new int[] {0, Math.max(0, twin.cards.size() - 1)};
            case "t": return new int[] {0, 5};
            case "D": return new int[] {0, twin.day};
            default:
                int sign = word.indexOf("..");
                return new int[] {Integer.parseInt(word.substring(0, sign)), Integer.parseInt(word.substring(sign + 2))};
        }
    }
}
