import java.util.ArrayList;
import java.util.Arrays;
import java.util.List;

/**
 * Each refused call: its number, which of several refusals comes first, and that it changed nothing.
 * What a call may have changed is seen by two objects that were made alike: one is asked the refused
 * call, the other isn't, and all that is asked then must be answered alike.
 */
public final class RefusalsTest {
    private static final Check check = new Check("RefusalsTest");

    /** How an object is made, all that is asked of it then, and what it answers if nothing was ahead. */
    private static final class World {
        final List<String> made, seen;
        final long[] answers;

        World(List<String> made, List<String> seen) {
            this.made = made;
            this.seen = seen;
            answers = asked(make());
        }

        Run make() {
            Run x = new Run(check);
            made.forEach(x::answer);
            return x;
        }

        long[] asked(Run x) {
            return seen.stream().mapToLong(x::answer).toArray();
        }

        World refused(long want, String... calls) {
            for (String call : calls) {
                Run x = make();
                x.due(call, want);
                same(call, x);
            }
            return this;
        }

        /** These may answer what they like. */
        World asks(String... calls) {
            for (String call : calls) {
                Run x = make();
                x.answer(call);
                same(call, x);
            }
            return this;
        }

        private void same(String call, Run x) {
            long[] now = asked(x);
            for (int i = 0; i < now.length; i++) {
                if (now[i] != answers[i]) {
                    check.due(seen.get(i) + " behind " + call, now[i], answers[i]);
                }
            }
            check.holds("nothing is changed by " + call, Arrays.equals(now, answers));
        }
    }

    private static final World SOME = new World(some(), seenOf(3, 4, 3, 7, 5));
    private static final World FULL_ONE = new World(full(), seenOf(5, 8, 6, 12, 999));
    private static final World EMPTY = new World(List.of(), seenOf(0, 0, 0, 0, 0));

    public static void main(String[] args) {
        check.says("REFUSALS, of several the first one told: NONE there is no such SHELL, DRUM, SHAKE, CARD; BAD a number is "
            + "not as told; STATE as told; FULL.");
        manyAreSeen();
        ball();
        cards();
        rules();
        placing();
        tablesAndWatches();
        withAllFull();
        check.says("The host's: -11 nothing there, -12 a place outside, -13 of another sort or KIND, -14 a size below 0. "
            + "They change nothing.");
        host();
        withNothing();
        check.says("They change nothing.");
        askedOnly();
        foundOnly();
        check.close();
    }

    // ---- what is made

    /** Some of everything: also a wrong card, a mended one, a refit, a watch, an image, half a text on the tape. */
    private static List<String> some() {
        List<String> made = new ArrayList<>(List.of(
            "shell(60, 6, 11)", "shell(150, 4, 8)", "shell(181, 5, 3)",
            "drum(0, 0, 1)", "drum(40, -5, 2)", "drum(100, 9, 0)", "drum(170, 0, 8)",
            "shake(20, 0, 1000)", "shake(300, 40, 50000)", "shake(10, 99, 0)", "days(3)",
            "card(0, 0, 0, 2200)", "card(1, 1, 0, 2215)", "card(2, 0, 1, 52000)", "card(3, 1, 0, 3190)",
            "card(4, 0, 0, 1900)", "card(5, 2, 2, 6000)", "mend(0, 2300)", "days(2)", "card(0, 3, 1, 52000)",
            "wrong(1, 1)", "wrong(5, 1)",
            "sheet(0, 2, 9)", "cell(0, 1, 1)", "cell(0, 3, 700)", "cell(0, 4, 1)", "cell(0, 5, 2)", "cell(0, 7, 900)",
            "cell(0, 8, 360)", "sheet(1, 1, 4)", "cell(1, 0, 2)", "cell(1, 3, 3000)",
            "sheet(2, 0, 5)", "cell(2, 0, 3)", "cell(2, 1, 1)", "cell(2, 2, 1)", "cell(2, 3, 100)", "cell(2, 4, 7)",
            "refit(5, 1000)", "watch(2, 2, 3)", "image()",
            "clock(0, 50)", "pace(0, 0, 7)", "pace(1, 1, 9)", "wrong(2, 1)", "settle(0, 5)"));
        made.addAll(fed("take far;call noise*100+drift;"));
        made.addAll(List.of("text()", "force(1)"));
        made.addAll(fed("take late;"));
        return made;
    }

    /** All that there may be, to the last number and byte. */
    private static List<String> full() {
        List<String> made = new ArrayList<>();
        for (int n = 0; n < 10; n++) {
            made.add("days(" + (n < 9 ? 100 : 99) + ")");
            made.add(n < 5 ? "shell(117, " + (n + 1) + ", " + n + ")" : "count(0)");
            made.add(n < 8 ? "drum(" + n + ", " + n + ", 0)" : "count(0)");
            made.add(n < 6 ? "shake(" + n + ", " + n + ", 9)" : "count(0)");
        }
        for (int t = 1; t < 6; t++) {
            made.addAll(fed("take " + t + ";call far;"));
            made.add("text()");
        }
        for (int c = 0; c < 40; c++) {
            made.add("card(" + c % 6 + ", " + c % 8 + ", " + c % 5 + ", " + (100 + c) + ")");
        }
        for (int s = 0; s < 4; s++) {
            made.add("sheet(" + s + ", " + s % 3 + ", 40)");
            made.add("cell(" + s + ", " + (10 * s + 3) + ", 7)");
        }
        made.addAll(List.of("mend(0, 999)", "wrong(7, 1)", "force(5)", "image()", "wrong(7, 0)", "clock(7, 70)"));
        made.addAll(fed(" ".repeat(160)));
        return made;
    }

    /** The calls that put letters on the tape, eight at a time. */
    private static List<String> fed(String letters) {
        List<String> calls = new ArrayList<>();
        for (int from = 0; from < letters.length(); from += 8) {
            String part = letters.substring(from, Math.min(letters.length(), from + 8));
            long w = 0;
            for (char c : part.toCharArray()) {
                w = w << 8 | c;
            }
            calls.add("feed(" + w + ", " + part.length() + ")");
        }
        return calls;
    }

    // ---- what is seen

    private static List<String> seenOf(int shells, int drums, int shakes, int cards, int day) {
        List<String> seen = new ArrayList<>(List.of("count(0)", "count(1)", "count(2)", "count(3)", "count(4)", "count(5)",
            "count(6)", "count(7)", "refitTold(0)", "refitTold(1)", "refitTold(2)", "watched()"));
        seeShakes(seen, shakes);
        for (int c = 0; c < cards; c++) {
            for (int what = 0; what < 7; what++) {
                seen.add("cardTold(" + c + ", " + what + ", " + day + ")");
            }
            seen.add("cardTold(" + c + ", 3, 0)");
            seen.add("law(" + c + ", 1, " + day + ")");
        }
        for (int kind = 0; kind < 6; kind++) {
            seen.add("due(" + kind + ", 7, 30)");
            seen.add("due(" + kind + ", 60, 0)");
            seen.add("due(" + kind + ", 170, 0)");
        }
        seeTape(seen, cards);
        seen.add("back()");
        seeShakes(seen, shakes);
        for (int k = 0; k < shells; k++) {
            seen.addAll(List.of("pace(" + k + ", 0, 50)", "pace(" + k + ", 1, 50)"));
        }
        for (int d = 0; d < drums; d++) {
            seen.add("clock(" + d + ", 0)");
        }
        for (int c = 0; c < cards; c++) {
            seen.add("wrong(" + c + ", 1)");
        }
        seeSheets(seen, cards, day);
        seen.addAll(List.of("days(1)", "shell(1, 1, 1)", "drum(0, 0, 0)", "shake(0, 0, 0)", "card(0, 0, 0, 0)"));
        return seen;
    }

    private static void seeShakes(List<String> seen, int shakes) {
        for (int s = 0; s < shakes; s++) {
            seen.addAll(List.of("shakeTold(" + s + ", 0)", "shakeTold(" + s + ", 1)", "shakeTold(" + s + ", 2)"));
        }
    }

    /** The text that is begun on the tape is read to its end, and becomes the rule. */
    private static void seeTape(List<String> seen, int cards) {
        seen.addAll(fed("call 3;"));
        seen.addAll(List.of("text()", "count(5)", "force(2)", "count(6)"));
        for (int c = 0; c < Math.min(3, cards); c++) {
            seen.add("law(" + c + ", 0, 0)");
        }
    }

    /** Sizes by the places just outside; numbers one by one, by the times of cards that come of them. */
    private static void seeSheets(List<String> seen, int cards, int day) {
        for (int s = 0; s < 4; s++) {
            seen.addAll(List.of("watch(" + s + ", 1, 3)", "watched()"));
            for (int size : new int[] {0, 4, 5, 9, 40}) {
                seen.add("copy(" + s + ", 0, " + s + ", 0, " + size + ")");
            }
        }
        int[] sorts = {2, 1, 0};
        int[] sizes = {9, 4, 5};
        for (int s = 0; s < 3; s++) {
            seen.add("sheet(3, " + sorts[s] + ", 4)");
            for (int i = 0; i < sizes[s]; i++) {
                seen.addAll(List.of("copy(" + s + ", " + i + ", 3, 3, 1)", "cards(3, " + sorts[s] + ", 0, 1)"));
            }
        }
        for (int c = cards; c < cards + 18; c++) {
            seen.add("cardTold(" + c + ", 3, " + day + ")");
        }
    }

    /** Were it too few that is seen, nothing of this test would hold: these changes must all be seen. */
    private static void manyAreSeen() {
        for (String call : new String[] {"shell(9, 1, 1)", "pace(1, 0, 5)", "pace(2, 1, 4)", "drum(0, 0, 0)", "clock(3, 1)",
            "shake(0, 0, 0)", "days(1)", "card(0, 0, 0, 0)", "mend(6, 0)", "wrong(6, 1)", "feed(32, 1)", "text()", "force(0)",
            "settle(1, 5)", "refit(5, 1)", "watch(2, 0, 0)", "image()", "back()", "sheet(3, 0, 0)", "sheet(1, 1, 5)",
            "sheet(2, 0, 5)", "cell(0, 8, 1)", "cell(1, 2, 1)", "cell(2, 4, 0)", "copy(0, 3, 0, 6, 1)", "cards(0, 2, 4, 1)"}) {
            Run x = SOME.make();
            x.answer(call);
            check.holds(call + " is seen", !Arrays.equals(SOME.asked(x), SOME.answers));
        }
    }

    // ---- what is refused

    private static void ball() {
        SOME.refused(-2, "shell(0, 6, 11)", "shell(201, 6, 11)", "shell(1, 0, 1)", "shell(1, 100, 1)", "shell(1, 1, -1)",
            "shell(1, 1, 100)", "shell(200, 0, 1)", "shell(200, 100, 1)", "shell(200, 1, -1)", "shell(200, 1, 100)",
            "shell(MIN, 1, 1)", "shell(MAX, 1, 1)", "shell(201, 0, 100)");
        SOME.refused(-3, "shell(200, 1, 1)", "shell(200, 99, 99)", "shell(200, 1, 0)");
        SOME.refused(-1, "pace(-1, 0, 1)", "pace(3, 0, 1)", "pace(5, 0, 1)", "pace(MIN, 0, 1)", "pace(MAX, 0, 1)", "pace(3, 2, 1)",
            "pace(3, 0, 0)", "pace(-1, -1, 100)");
        SOME.refused(-2, "pace(0, -1, 1)", "pace(0, 2, 1)", "pace(0, 0, 0)", "pace(0, 0, 100)", "pace(0, 1, -1)", "pace(2, 1, 100)",
            "pace(2, MIN, 1)", "pace(2, MAX, 1)", "pace(0, 1, MIN)", "pace(0, 0, MAX)");
        SOME.refused(-5, "due(-1, 0, 0)", "due(6, 0, 0)", "due(6, 181, 100)", "shadow(-1, 0)", "shadow(2, 0)", "shadow(0, -1)",
            "shadow(0, 2)", "shadow(2, 2)");
        SOME.refused(-2, "due(0, -1, 0)", "due(0, 181, 0)", "due(0, 0, -1)", "due(2, 91, 100)");
        SOME.refused(-1, "due(2, 91, 0)", "due(3, 180, 99)", "shadow(0, 0)", "shadow(1, 1)");
    }

    private static void cards() {
        SOME.refused(-2, "drum(-1, 0, 0)", "drum(360, 0, 0)", "drum(0, -100, 0)", "drum(0, 100, 0)", "drum(0, 0, -1)", "drum(0, 0, 10)",
            "shake(-1, 0, 0)", "shake(360, 0, 0)", "shake(0, -1, 0)", "shake(0, 100, 0)", "shake(0, 0, -1)", "shake(0, 0, 10000000)",
            "days(0)", "days(-1)", "days(101)", "days(MIN)", "days(MAX)");
        SOME.refused(-1000, "clock(-1, 0)", "clock(4, 0)", "clock(8, 0)", "clock(4, 100)", "clock(MIN, MIN)");
        SOME.refused(-2000, "clock(0, -100)", "clock(3, 100)", "clock(0, MIN)", "clock(0, MAX)");
        SOME.refused(-1, "card(0, -1, 0, 0)", "card(0, 4, 0, 0)", "card(0, 0, -1, 0)", "card(0, 0, 3, 0)", "card(6, 4, 0, 0)",
            "card(0, 0, 3, -1)", "card(-1, 9, 9, 10000000)", "mend(-1, 0)", "mend(7, 0)", "mend(7, -1)", "mend(40, 10000000)",
            "wrong(-1, 0)", "wrong(7, 1)", "wrong(7, 2)", "wrong(40, -1)");
        SOME.refused(-2, "card(-1, 0, 0, 0)", "card(6, 0, 0, 0)", "card(0, 0, 0, -1)", "card(0, 0, 0, 10000000)", "mend(1, -1)",
            "mend(1, 10000000)", "mend(0, -1)", "mend(0, 10000000)", "wrong(0, -1)", "wrong(0, 2)", "wrong(1, 2)");
        SOME.refused(-3, "mend(0, 0)", "mend(0, 2200)", "mend(0, 2300)", "mend(0, 9999999)");
        SOME.refused(-1000000000, "cardTold(-1, 0, 0)", "cardTold(7, 0, 0)", "cardTold(7, 7, 6)", "cardTold(40, -1, -1)");
        SOME.refused(-1000000001, "cardTold(0, 0, -1)", "cardTold(0, 0, 6)", "cardTold(0, 7, 6)", "cardTold(0, -1, -1)");
        SOME.refused(-1000000002, "cardTold(0, -1, 0)", "cardTold(6, 7, 5)", "cardTold(0, MIN, 0)", "cardTold(0, MAX, 0)");
    }

    private static void rules() {
        SOME.refused(-2, "feed(32, 0)", "feed(32, 9)", "feed(32, -1)", "feed(32, MIN)", "feed(32, MAX)", "force(-1)", "force(2)", "force(6)",
            "force(MIN)", "force(MAX)");
        SOME.refused(DrumWorld.NO, "law(-1, 0, 0)", "law(7, 0, 0)", "law(0, -1, 0)", "law(0, 2, 0)", "law(0, 0, -1)", "law(0, 0, 6)",
            "law(7, 2, 6)");
    }

    private static void placing() {
        SOME.refused(DrumWorld.NO, "place(-1, 0, 0)", "place(3, 0, 0)", "place(3, 6, 0)", "place(3, 0, 4)", "settle(-1, 0)", "settle(3, 0)",
            "settle(3, 6)");
        SOME.refused(-2, "place(0, -1, 0)", "place(0, 6, 0)", "place(0, 5, -1)", "place(0, 5, 4)", "place(2, 6, 0)", "place(2, 5, 4)");
        SOME.refused(-3, "place(2, 5, 0)", "place(2, 5, 1)", "place(2, 5, 2)", "place(2, 5, 3)", "place(0, 2, 0)", "place(0, 0, 3)");
        SOME.refused(DrumWorld.NO + 1, "settle(0, -1)", "settle(0, 6)", "settle(2, 6)", "settle(0, MIN)", "settle(0, MAX)");
        SOME.refused(DrumWorld.NO + 2, "settle(2, 5)", "settle(0, 2)", "settle(0, 0)", "settle(1, 3)");
    }

    private static void tablesAndWatches() {
        SOME.refused(DrumWorld.NO, "table(-1, 0, 0, 0)", "table(2, 0, 0, 0)", "table(0, -1, 0, 0)", "table(0, 18, 0, 0)", "table(0, 0, -1, 0)",
            "table(0, 0, 6, 0)", "table(0, 0, 0, -1)", "table(0, 0, 0, 2)", "refit(-1, 1)", "refit(6, 1)", "refit(5, 0)", "refit(5, 100000)",
            "refit(6, 0)", "refit(5, MIN)", "refit(5, MAX)", "refit(MAX, 1)");
        SOME.refused(-5, "refitTold(-1)", "refitTold(3)", "called(-1, 0, 0)", "called(7, 0, 0)", "called(7, -1, 6)", "watch(-1, 1, 1)",
            "watch(4, 1, 1)", "watch(4, 9, 181)", "watch(MIN, 1, 1)", "watch(MAX, 1, 1)", "shakeTold(-1, 0)", "shakeTold(3, 0)", "shakeTold(3, 3)");
        SOME.refused(-2, "called(0, -1, 0)", "called(0, 100000, 0)", "called(0, 0, -1)", "called(0, 0, 6)", "strange(-1)", "strange(6)",
            "count(-1)", "count(8)");
        SOME.refused(-11, "watch(3, 1, 1)", "watch(3, 9, 1)", "watch(3, -1, 181)");
        SOME.refused(-2, "watch(2, -1, 1)", "watch(2, 9, 1)", "watch(2, 1, -1)", "watch(2, 1, 181)", "watch(0, 1, 1)", "watch(0, 0, 0)",
            "watch(1, 8, 180)", "watch(2, MAX, 1)", "watch(2, 1, MIN)");
        SOME.refused(-7, "shakeTold(0, -1)", "shakeTold(0, 3)", "shakeTold(2, MIN)", "shakeTold(2, MAX)");
    }

    private static void withAllFull() {
        FULL_ONE.refused(-4, "shell(1, 1, 1)", "shell(5, 99, 0)", "drum(0, 0, 0)", "drum(359, 99, 9)", "shake(0, 0, 0)", "shake(359, 99, 9999999)",
            "days(1)", "days(100)", "card(0, 0, 0, 0)", "card(5, 7, 5, 9999999)", "feed(32, 1)", "feed(0, 8)", "text()");
        FULL_ONE.refused(-3, "shell(6, 1, 1)", "shell(200, 1, 1)", "mend(0, 5)");
        FULL_ONE.refused(-2, "shell(0, 1, 1)", "shell(6, 0, 1)", "shell(1, 1, 100)", "drum(360, 0, 0)", "drum(0, 100, 0)", "drum(0, 0, 10)",
            "shake(360, 0, 0)", "shake(0, 100, 0)", "shake(0, 0, -1)", "days(0)", "days(101)", "card(6, 0, 0, 0)", "card(0, 0, 0, -1)",
            "feed(32, 0)", "feed(32, 9)", "mend(0, -1)", "force(6)");
        FULL_ONE.refused(-1, "card(0, 8, 0, 0)", "card(0, 0, 6, 0)", "card(6, 8, 0, -1)", "mend(40, 0)", "wrong(40, 1)", "pace(5, 0, 1)");
        FULL_ONE.refused(0, "cards(2, 2, 0, 10)", "cards(0, 0, 0, 1)");
        FULL_ONE.refused(-12, "cards(2, 2, 4, 10)", "cards(3, 0, 37, 1)", "cell(0, 40, 1)", "copy(0, 1, 3, 0, 40)", "copy(0, 0, 3, 1, 40)");
    }

    private static void host() {
        SOME.refused(-2, "sheet(-1, 0, 1)", "sheet(4, 0, 1)", "sheet(4, -1, 0)", "sheet(0, 3, 1)", "sheet(0, -2, 1)", "sheet(0, 0, 41)",
            "sheet(1, 1, MAX)", "sheet(4, 0, -1)", "sheet(0, 3, -1)", "cell(-1, 0, 0)", "cell(4, 0, 0)", "cell(4, -1, 0)");
        SOME.refused(-14, "sheet(0, 0, -1)", "sheet(1, 1, -1)", "sheet(2, 2, MIN)", "sheet(3, 0, -1)");
        SOME.refused(-11, "cell(3, 0, 1)", "cell(3, -1, 1)", "copy(3, 0, 0, 0, 1)", "copy(0, 0, 3, 0, 1)", "copy(0, -1, 3, 0, 1)", "copy(3, 0, 3, 0, -1)",
            "cards(3, 2, 0, 1)", "cards(3, 0, -1, 1)");
        SOME.refused(-12, "cell(0, 9, 1)", "cell(0, -1, 1)", "cell(1, 4, 1)", "cell(2, 5, 1)", "cell(2, MIN, 1)", "cell(2, MAX, 1)");
        SOME.refused(-2, "copy(-1, 0, 0, 0, 1)", "copy(4, 0, 0, 0, 1)", "copy(0, 0, -1, 0, 1)", "copy(0, 0, 4, 0, 1)", "copy(3, 0, 4, 0, 1)",
            "copy(0, -1, 4, 0, -1)");
        SOME.refused(-13, "copy(0, 0, 1, 0, 1)", "copy(1, 0, 2, 0, 1)", "copy(2, 0, 0, 0, 1)", "copy(0, -1, 2, 0, 1)", "copy(0, 0, 2, 0, -1)",
            "cards(0, 1, 0, 1)", "cards(1, 2, 0, 1)", "cards(2, 1, 9, 1)", "cards(2, 2, -1, 1)");
        SOME.refused(-12, "copy(0, 0, 0, 1, 9)", "copy(0, 1, 0, 0, 9)", "copy(0, 0, 0, 0, 10)", "copy(0, 0, 0, 3, -1)", "copy(0, -1, 0, 0, 1)",
            "copy(0, 0, 0, -1, 1)", "copy(0, 9, 0, 0, 1)", "copy(0, 0, 0, 9, 1)", "copy(0, 3, 0, 2, MAX)", "copy(0, 3, 0, 2, MIN)",
            "copy(0, MAX, 0, 2, 2)", "copy(0, 3, 0, MAX, 2)");
        SOME.refused(-2, "cards(-1, 2, 0, 1)", "cards(4, 2, 0, 1)", "cards(0, -1, 0, 1)", "cards(0, 3, 0, 1)", "cards(0, 2, 0, -1)", "cards(0, 2, 0, 11)",
            "cards(3, 2, 0, 11)", "cards(0, 1, -1, 11)");
        SOME.refused(-12, "cards(0, 2, -1, 1)", "cards(0, 2, 6, 1)", "cards(0, 2, 9, 1)", "cards(0, 2, -4, 3)", "cards(1, 1, 1, 1)", "cards(2, 0, 2, 1)",
            "cards(0, 2, MIN, 1)", "cards(0, 2, MAX, 2)");
        SOME.refused(-2, "taken(0, -1)", "taken(0, 6)", "taken(40, 6)", "taken(7, -1)");
        SOME.refused(-12, "taken(-1, 0)", "taken(40, 0)", "taken(MIN, 5)", "taken(MAX, 5)");
        SOME.refused(-11, "taken(7, 0)", "taken(39, 5)");
        SOME.refused(-13, "taken(0, 1)", "taken(1, 2)", "taken(2, 3)", "taken(4, 2)", "taken(5, 1)");
    }

    private static void withNothing() {
        EMPTY.refused(-1, "pace(0, 0, 1)", "pace(0, 2, 0)", "card(0, 0, 0, 0)", "card(6, 0, 0, -1)", "mend(0, 0)", "mend(0, -1)", "wrong(0, 0)",
            "wrong(0, 2)", "due(0, 0, 0)", "due(5, 180, 99)");
        EMPTY.refused(-1000, "clock(0, 0)", "clock(0, 100)").refused(-1000000000, "cardTold(0, 0, 0)", "cardTold(0, 7, 1)");
        EMPTY.refused(DrumWorld.NO, "law(0, 0, 0)", "place(0, 0, 0)", "place(0, 1, 4)", "settle(0, 0)", "settle(0, 1)", "refit(1, 1)", "refit(0, 0)",
            "table(0, 0, 1, 0)");
        EMPTY.refused(-5, "called(0, 0, 0)", "shakeTold(0, 0)", "shakeTold(0, 3)", "refitTold(3)", "watch(4, 0, 0)", "due(6, 0, 0)");
        EMPTY.refused(-2, "force(1)", "strange(1)", "count(8)", "cell(4, 0, 0)", "days(0)", "feed(0, 0)").refused(-3, "back()");
        EMPTY.refused(-11, "watch(0, 0, 0)", "watch(3, 9, 181)", "cell(0, 0, 0)", "copy(0, 0, 1, 0, 0)", "copy(2, 0, 2, 0, 0)", "cards(0, 0, 0, 0)", "taken(0, 0)");
        EMPTY.refused(-14, "sheet(0, 0, -1)").refused(-12, "taken(40, 0)", "taken(-1, 0)").refused(-100, "text()");
    }

    // ---- what is only asked

    private static void askedOnly() {
        SOME.asks("due(0, 10, 10)", "due(5, 10, 10)", "shadow(0, 0)", "shadow(1, 1)", "cardTold(0, 4, 5)", "cardTold(6, 4, 0)", "law(0, 0, 5)", "law(0, 1, 0)",
            "place(0, 5, 0)", "place(1, 5, 3)", "table(0, 2, 5, 0)", "table(1, 5, 3, 1)", "refitTold(0)", "called(0, 99999, 5)", "strange(5)",
            "watched()", "shakeTold(1, 2)", "count(0)", "count(7)", "taken(0, 0)", "taken(3, 2)", "copy(0, 4, 0, 4, 5)", "copy(0, 9, 0, 9, 0)",
            "cards(0, 2, 0, 0)", "cards(0, 2, 9, 0)", "clock(0, 50)", "pace(0, 0, 7)", "wrong(2, 1)", "wrong(0, 0)", "force(1)", "cell(0, 3, 700)");
    }

    /** A refit changes what refitTold tells, a watch what watched does, an image what comes back; nothing else. */
    private static void foundOnly() {
        List<String> unseen = List.of("refitTold(0)", "refitTold(1)", "refitTold(2)", "watched()");
        List<String> rest = new ArrayList<>(SOME.seen);
        rest.removeAll(unseen);
        new World(SOME.made, rest).asks("refit(5, 1)", "refit(5, 99999)", "refit(0, 7)", "refit(3, 100)", "watch(2, 0, 0)", "watch(2, 8, 180)",
            "watch(2, 1, 90)");
        List<String> tillBack = new ArrayList<>(SOME.seen.subList(0, SOME.seen.indexOf("back()")));
        new World(SOME.made, tillBack).asks("image()");
    }
}
