/** The edges that the document names for images, sheets and what the host asks: promises 29 to 35. */
public final class EdgesHostTest {
    private static final Check check = new Check("EdgesHostTest");

    public static void main(String[] args) {
        imageOfNothing();
        imageOfAll();
        imageOfThoseThen();
        imageKeepsNothingElse();
        imageAnswers();
        backAnswers();
        sheetNumbers();
        sheetSorts();
        lowestBits();
        hostRefusals();
        sheetAnswers();
        cellAnswers();
        copiedAsTheyWere();
        copyAnswers();
        cardsCame();
        cardsLeftOut();
        cardsAnswers();
        takenAnswers();
        fullToTheLastCall();
        check.close();
    }

    private static Run run(String... rows) {
        return new Run(check, rows);
    }

    private static void imageOfNothing() {
        check.says("(of those that there are then; nothing else)");
        run("back() = STATE", "image() = 0", "shell(1, 2, 3)", "drum(1, 2, 3)", "shake(1, 2, 3)", "card(0, 0, 0, 5)", "wrong(0, 1)",
            "back() = 0", "count(1) = 1", "count(2) = 1", "count(3) = 1", "count(4) = 1", "pace(0, 0, 1) = 2", "pace(0, 1, 1) = 3",
            "clock(0, 0) = 2", "shakeTold(0, 0) = 1", "shakeTold(0, 1) = 2", "shakeTold(0, 2) = 3", "cardTold(0, 6, 0) = 1");
    }

    private static void imageOfAll() {
        check.says("AN IMAGE keeps SLOW of all SHELLS, DRIFTS, SHAKES, which CARDS are WRONG");
        Run x = run();
        for (int n = 0; n < 8; n++) {
            x.rows("drum(" + 10 * n + ", " + (n - 4) + ", 0)");
            if (n < 5) {
                x.rows("shell(100, " + (n + 50) + ", " + n + ")");
            }
            if (n < 6) {
                x.rows("shake(" + (100 + n) + ", " + (n + 30) + ", " + (n + 7000) + ")");
            }
        }
        for (int c = 0; c < 40; c++) {
            x.rows("card(0, " + c % 8 + ", " + c % 6 + ", 8000)", "wrong(" + c + ", " + isWrong(c) + ")");
        }
        x.rows("image() = 0");
        for (int n = 0; n < 8; n++) {
            x.rows("clock(" + n + ", 99)", "pace(" + n + ", 0, 1)", "pace(" + n + ", 1, 99)", "settle(" + n + ", 0)");
        }
        for (int c = 0; c < 40; c++) {
            x.rows("wrong(" + c + ", " + (1 - isWrong(c)) + ") = " + isWrong(c));
        }
        x.rows("shakeTold(5, 1) = 0", "back() = 0");
        for (int n = 0; n < 8; n++) {
            x.rows("clock(" + n + ", 0) = " + (n - 4));
            if (n < 5) {
                x.rows("pace(" + n + ", 0, 1) = " + (n + 50), "pace(" + n + ", 1, 99) = " + n);
            }
            if (n < 6) {
                x.rows("shakeTold(" + n + ", 0) = " + (100 + n), "shakeTold(" + n + ", 1) = " + (n + 30), "shakeTold(" + n + ", 2) = " + (n + 7000));
            }
        }
        for (int c = 0; c < 40; c++) {
            x.rows("cardTold(" + c + ", 6, 0) = " + isWrong(c));
        }
    }

    /** The first and the last one, too: a card is not wrong by itself. */
    private static int isWrong(int c) {
        return (c / 6 + 1) % 2;
    }

    private static void imageOfThoseThen() {
        check.says("All that it keeps is as in THE IMAGE (what came since stays): DAY.");
        Run x = run("shell(1, 2, 3)", "drum(1, 2, 3)", "shake(1, 2, 3)", "card(0, 0, 0, 5)", "image() = 0", "days(7)", "shell(2, 12, 13)",
            "drum(11, 12, 3)", "shake(11, 12, 13)", "card(0, 1, 1, 15)", "wrong(0, 1)", "wrong(1, 1)", "clock(0, 9)", "clock(1, 19)",
            "pace(0, 0, 9)", "pace(1, 1, 19)", "settle(1, 7) = NO+2", "back() = 7");
        x.rows("count(0) = 7", "count(1) = 2", "count(2) = 2", "count(3) = 2", "count(4) = 2", "cardTold(0, 6, 7) = 0", "cardTold(1, 6, 7) = 1",
            "clock(0, 0) = 2", "clock(1, 0) = 19", "pace(0, 0, 1) = 2", "pace(1, 0, 1) = 12", "pace(1, 1, 1) = 19", "shakeTold(1, 0) = 11",
            "shakeTold(0, 0) = 1", "cardTold(1, 5, 7) = 7", "cardTold(1, 3, 7) = 15");
    }

    private static void imageKeepsNothingElse() {
        check.says("which CARDS are WRONG (of those that there are then; nothing else)");
        Run x = run("shell(100, 50, 50)", "drum(0, 0, 3)", "shake(0, 0, 0)", "card(0, 0, 0, 500)").tape("take 1;call 1;").rows("text() = 1",
            "image() = 0", "days(5)", "mend(0, 600) = 500", "force(1) = 0").ints(0, 0, 5).rows("watch(0, 1, 5) = 2", "drum(90, 0, 0)",
            "card(0, 1, 0, 4320)", "refit(5, 1) = 1", "feed(32, 3) = 3", "back() = 5", "count(0) = 5", "count(5) = 2", "count(6) = 1", "count(7) = 3",
            "cardTold(0, 3, 5) = 600", "cardTold(0, 3, 4) = 500", "mend(0, 1) = STATE", "watched() = 1", "watch(0, 1, 0) = 1");
        x.rows("refitTold(0) = 0", "refitTold(1) = 0", "refitTold(2) = 8", "cell(0, 2, 0) = -12", "cell(0, 1, 0) = 1");
    }

    private static void imageAnswers() {
        check.says("AN IMAGE is kept: DAY.");
        Run x = run("image() = 0", "days(100)", "image() = 100", "drum(0, 5, 0)", "back() = 100", "image() = 100", "clock(0, 6)", "back() = 100",
            "clock(0, 7) = 5", "image() = 100", "clock(0, 8) = 7", "back() = 100", "back() = 100", "clock(0, 7) = 7");
        for (int n = 2; n <= 9; n++) {
            x.rows("days(100)");
        }
        x.rows("days(99)", "image() = 999", "back() = 999");
    }

    private static void backAnswers() {
        check.says("All that it keeps is as in THE IMAGE (what came since stays): DAY. STATE: there is none.");
        run("back() = STATE", "drum(0, 5, 0)", "clock(0, 6)", "back() = STATE", "clock(0, 7) = 6", "image() = 0", "back() = 0", "days(3)", "back() = 3",
            "clock(0, 7) = 7");
    }

    private static void sheetNumbers() {
        check.says("SHEETS 0 .. 3 are rows of numbers, or missing (as all are at first)");
        run().all(-11, "cell(0, 0, 0)", "cell(1, 0, 0)", "cell(2, 0, 0)", "cell(3, 0, 0)", "watch(0, 0, 0)", "watch(3, 0, 0)", "copy(0, 0, 3, 0, 0)",
            "cards(0, 0, 0, 0)", "cards(3, 2, 0, 0)")
            .all(-2, "cell(-1, 0, 0)", "cell(4, 0, 0)", "sheet(-1, 0, 1)", "sheet(4, 0, 1)", "sheet(MIN, 0, 1)", "sheet(MAX, 0, 1)", "sheet(-1, -1, 0)",
                "sheet(4, -1, 0)")
            .all(1, "sheet(0, 2, 1)", "sheet(3, 0, 1)", "cell(0, 0, 0)", "cell(3, 0, 0)").all(-11, "cell(1, 0, 0)", "cell(2, 0, 0)")
            .all(1, "sheet(1, 1, 1)", "sheet(2, 2, 1)", "sheet(0, -1, 1)", "cell(1, 0, 0)").all(-11, "cell(0, 0, 0)");
    }

    private static void sheetSorts() {
        check.says("of sort 0 bytes, 1 shorts, 2 ints, 40 at most");
        Run x = run().all(-2, "sheet(0, 3, 1)", "sheet(0, -2, 1)", "sheet(0, MIN, 1)", "sheet(0, MAX, 1)");
        for (int sort = 0; sort < 3; sort++) {
            x.all(-2, "sheet(0, " + sort + ", 41)", "sheet(0, " + sort + ", MAX)").all(-14, "sheet(0, " + sort + ", -1)", "sheet(0, " + sort + ", MIN)");
            x.all(1, "sheet(1, " + sort + ", 40)", "cell(1, 39, 1)", "cell(1, 0, 1)").all(-12, "cell(1, 40, 1)", "cell(1, -1, 1)");
            x.all(1, "sheet(1, " + sort + ", 0)").all(-12, "cell(1, 0, 1)", "cell(1, -1, 1)");
            x.all(1, "sheet(1, " + sort + ", 1)", "cell(1, 0, 1)").all(-12, "cell(1, 1, 1)");
            for (int other = 0; other < 3; other++) {
                x.rows("sheet(2, " + other + ", 1)", "cards(1, " + other + ", 0, 0) = " + (other == sort ? 0 : -13),
                    "copy(1, 0, 2, 0, 1) = " + (other == sort ? 1 : -13));
            }
        }
        x.rows("cell(0, 0, 0) = -11");
    }

    /** A number comes back as a card's time, if it is one. */
    private static void lowestBits() {
        check.says("Number i of a SHEET becomes v (of bytes, shorts its lowest 8, 16 bits): 1.");
        int[][] values = {{0, 0, 1, 127, 128, 129, 255, 256, 383, 384, -1, -128, -129, -255, -256, 65536 + 7, Integer.MAX_VALUE, Integer.MIN_VALUE},
            {1, 0, 127, 128, 256, 32767, 32768, 65535, 65536, 98303, 98304, -1, -32768, -32769, -65535, -65536, Integer.MAX_VALUE, Integer.MIN_VALUE},
            {2, 0, 128, 32768, 65536, 9999999, 10000000, -1, Integer.MAX_VALUE, Integer.MIN_VALUE}};
        for (int[] row : values) {
            Run x = run("drum(0, 0, 0)", "shake(0, 0, 0)", "sheet(1, " + row[0] + ", 4)");
            int came = 0;
            for (int i = 1; i < row.length; i++) {
                int want = row[0] == 0 ? (byte) row[i] : row[0] == 1 ? (short) row[i] : row[i];
                boolean isTime = want >= 0 && want <= 9999999;
                x.rows("cell(1, 3, " + row[i] + ") = 1", "cards(1, " + row[0] + ", 0, 1) = " + (isTime ? 1 : 0));
                if (isTime) {
                    x.rows("cardTold(" + came++ + ", 3, 0) = " + want);
                }
            }
            x.rows("count(4) = " + came);
        }
        run("drum(7, 0, 0)", "drum(300, 0, 0)", "sheet(0, 0, 1)", "cell(0, 0, 263)", "watch(0, 2, 0) = 1", "watched() = 1", "cell(0, 0, 127)",
            "watch(0, 2, 180) = 1", "cell(0, 0, 128)", "watch(0, 2, 180) = BAD", "sheet(0, 1, 1)", "cell(0, 0, 65836)", "watch(0, 2, 0) = 1",
            "watched() = 2", "cell(0, 0, 32768)", "watch(0, 2, 180) = BAD", "sheet(0, 2, 1)", "cell(0, 0, 65836)", "watch(0, 2, 180) = BAD");
    }

    private static void hostRefusals() {
        check.says("The host's: -11 nothing there, -12 a place outside, -13 of another sort or KIND, -14 a size below 0. They change nothing.");
        run("drum(1, 0, 0)", "drum(2, 0, 0)", "drum(3, 0, 0)", "shake(0, 0, 0)", "card(1, 0, 0, 0)").ints(0, 1, 2).rows("sheet(1, 1, 2)",
            "cell(2, 0, 9) = -11", "cell(0, 2, 3) = -12", "copy(0, 0, 1, 0, 1) = -13", "taken(0, 2) = -13", "sheet(0, 2, -1) = -14", "sheet(0, 2, 41) = BAD",
            "sheet(0, 3, 1) = BAD", "copy(0, 0, 0, 1, 2) = -12", "watch(0, 8, 0) = 2", "watched() = 3", "cell(0, 1, 3) = 1", "watch(0, 8, 0) = 2",
            "watched() = 5", "count(4) = 1", "cell(2, 0, 9) = -11");
    }

    private static void sheetAnswers() {
        check.says("A SHEET becomes a row of n of a sort, all 0, or missing (sort -1: n does not matter): 1. BAD: SHEET, sort, n above 40; -14.");
        Run x = run().all(-2, "sheet(-1, 0, -1)", "sheet(4, 0, -1)", "sheet(0, 3, -1)", "sheet(0, -2, -1)", "sheet(0, 0, 41)", "sheet(4, -1, -1)");
        x.all(-14, "sheet(0, 0, -1)", "sheet(3, 2, -41)").all(1, "sheet(0, -1, -1)", "sheet(0, -1, MIN)", "sheet(0, -1, 41)", "sheet(0, -1, MAX)", "sheet(0, -1, 0)");
        x.rows("cell(0, 0, 0) = -11", "drum(0, 0, 0)", "drum(9, 0, 0)").ints(0, 9, 9, 9).rows("watch(0, 8, 0) = 3", "watched() = 2", "sheet(0, 2, 3) = 1",
            "watch(0, 8, 0) = 3", "watched() = 1", "cell(0, 0, 9)", "cell(0, 2, 9)", "sheet(0, 2, 2) = 1", "sheet(0, 2, 3) = 1", "watch(0, 8, 0) = 3", "watched() = 1",
            "cell(0, 1, 9)", "sheet(0, -1, 0) = 1", "cell(0, 1, 9) = -11", "sheet(0, 1, 3) = 1", "watch(0, 8, 0) = 3", "watched() = 1");
        int[] forty = new int[40];
        java.util.Arrays.fill(forty, 9);
        x.ints(3, forty).rows("watch(3, 8, 0) = 40", "watched() = 2", "sheet(3, 0, 40) = 1", "watch(3, 8, 0) = 40", "watched() = 1");
    }

    private static void cellAnswers() {
        check.says("(of bytes, shorts its lowest 8, 16 bits): 1. BAD: SHEET; -11; -12.");
        run("sheet(1, 2, 3)", "drum(0, 0, 0)", "drum(5, 0, 0)").all(-2, "cell(-1, 0, 0)", "cell(4, 0, 0)", "cell(MIN, 0, 0)", "cell(MAX, 0, 0)", "cell(4, -1, 0)")
            .all(-11, "cell(0, 0, 0)", "cell(0, -1, 0)", "cell(3, 40, 0)").all(-12, "cell(1, -1, 5)", "cell(1, 3, 5)", "cell(1, MIN, 5)", "cell(1, MAX, 5)",
                "cell(1, 40, 5)").rows("watch(1, 1, 0) = 3", "watched() = 1", "cell(1, 0, 5) = 1", "watch(1, 1, 0) = 2", "watched() = 1", "cell(1, 2, 5) = 1",
                "watch(1, 1, 0) = 2", "watched() = 2", "cell(1, 1, 5) = 1", "watch(1, 1, 0) = 3");
    }

    /** What stands in sheet 0, each number 0 to 7 by its own drum. */
    private static void holds(Run x, int... numbers) {
        for (int i = 0; i < numbers.length; i++) {
            x.rows("sheet(3, 2, 1)", "copy(0, " + i + ", 3, 0, 1) = 1", "watch(3, 1, 0) = 1", "watched() = " + (1 << numbers[i]));
        }
    }

    private static Run eight() {
        Run x = run();
        for (int d = 0; d < 8; d++) {
            x.rows("drum(" + d + ", 0, 0)");
        }
        return x.ints(0, 0, 1, 2, 3, 4, 5, 6, 7);
    }

    private static void copiedAsTheyWere() {
        check.says("n numbers of a SHEET, from i on, come to another one's (or its own) place j (as they were): n.");
        holds(eight().rows("copy(0, 0, 0, 1, 7) = 7"), 0, 0, 1, 2, 3, 4, 5, 6);
        holds(eight().rows("copy(0, 1, 0, 0, 7) = 7"), 1, 2, 3, 4, 5, 6, 7, 7);
        holds(eight().rows("copy(0, 0, 0, 3, 5) = 5"), 0, 1, 2, 0, 1, 2, 3, 4);
        holds(eight().rows("copy(0, 3, 0, 0, 5) = 5"), 3, 4, 5, 6, 7, 5, 6, 7);
        holds(eight().rows("copy(0, 2, 0, 2, 6) = 6", "copy(0, 0, 0, 0, 8) = 8", "copy(0, 8, 0, 8, 0) = 0", "copy(0, 0, 0, 8, 0) = 0"), 0, 1, 2, 3, 4, 5, 6, 7);
        holds(eight().ints(1, 7, 7, 7).rows("copy(1, 0, 0, 0, 3) = 3", "copy(1, 2, 0, 7, 1) = 1", "copy(1, 3, 0, 0, 0) = 0"), 7, 7, 7, 3, 4, 5, 6, 7);
        holds(eight().rows("sheet(1, 2, 3)", "copy(0, 5, 1, 0, 3) = 3", "copy(1, 0, 0, 0, 3) = 3"), 5, 6, 7, 3, 4, 5, 6, 7);
    }

    private static void copyAnswers() {
        check.says("BAD: SHEETS; -11; -13: unlike sorts; -12 (n below 0, too).");
        Run x = eight().rows("sheet(1, 1, 8)", "sheet(2, 2, 3)");
        x.all(-2, "copy(-1, 0, 0, 0, 1)", "copy(4, 0, 0, 0, 1)", "copy(0, 0, -1, 0, 1)", "copy(0, 0, 4, 0, 1)", "copy(MIN, 0, MAX, 0, 1)", "copy(3, 0, 4, 0, 1)",
            "copy(4, 0, 3, 0, 1)", "copy(1, 0, 4, -1, -1)");
        x.all(-11, "copy(3, 0, 0, 0, 1)", "copy(0, 0, 3, 0, 1)", "copy(3, 0, 3, 0, 0)", "copy(3, -1, 1, -1, -1)", "copy(1, 9, 3, 9, 9)");
        x.all(-13, "copy(0, 0, 1, 0, 1)", "copy(1, 0, 0, 0, 1)", "copy(0, -1, 1, 9, -1)", "copy(1, 0, 2, 0, 0)");
        x.all(-12, "copy(0, -1, 2, 0, 1)", "copy(0, 0, 2, -1, 1)", "copy(0, 0, 2, 0, -1)", "copy(0, 8, 2, 0, 1)", "copy(0, 0, 2, 3, 1)", "copy(0, 0, 2, 0, 4)",
            "copy(0, 6, 2, 0, 3)", "copy(0, 0, 2, 1, 3)", "copy(2, 0, 0, 0, 4)", "copy(2, 0, 0, 6, 3)", "copy(0, 9, 2, 0, 0)", "copy(0, 0, 2, 4, 0)",
            "copy(0, -1, 2, 0, 0)", "copy(0, 0, 2, -1, 0)");
        x.all(-12, "copy(0, 1, 2, 0, MAX)", "copy(0, 0, 2, 1, MAX)", "copy(0, MAX, 2, 0, 1)", "copy(0, 0, 2, MAX, 1)", "copy(0, MAX, 2, MAX, MAX)",
            "copy(0, MIN, 2, 0, 1)", "copy(0, 0, 2, MIN, 1)", "copy(0, 0, 2, 0, MIN)", "copy(0, MAX, 0, 0, 2)");
        holds(x, 0, 1, 2, 3, 4, 5, 6, 7);
        x.rows("watch(2, 1, 0) = 3", "watched() = 1", "copy(0, 5, 2, 0, 3) = 3", "copy(0, 7, 2, 2, 1) = 1", "watch(2, 8, 0) = 3", "watched() = 224");
    }

    private static Run forCards() {
        return run("shell(100, 1, 1)", "drum(0, 0, 0)", "drum(0, 0, 0)", "shake(0, 0, 0)", "shake(0, 0, 0)");
    }

    private static void cardsCame() {
        check.says("CARDS by a SHEET of a sort: from a place on, four by four (as of card()), n of them (0 .. 10): how many came (others are left out).");
        int[] forty = new int[40];
        for (int c = 0; c < 10; c++) {
            forty[4 * c] = c % 6;
            forty[4 * c + 1] = c % 2;
            forty[4 * c + 2] = c / 5;
            forty[4 * c + 3] = 1000 + c;
        }
        Run x = forCards().ints(2, forty).rows("days(3)", "cards(2, 2, 0, 0) = 0", "count(4) = 0", "cards(2, 2, 0, 10) = 10", "count(4) = 10");
        for (int c = 0; c < 10; c++) {
            x.rows("cardTold(" + c + ", 0, 3) = " + c % 6, "cardTold(" + c + ", 1, 3) = " + c % 2, "cardTold(" + c + ", 2, 3) = " + c / 5,
                "cardTold(" + c + ", 3, 3) = " + (1000 + c), "cardTold(" + c + ", 5, 3) = 3");
        }
        x.rows("cards(2, 2, 36, 1) = 1", "cardTold(10, 3, 3) = 1009", "cards(2, 2, 0, 1) = 1", "cardTold(11, 3, 3) = 1000", "cards(2, 2, 4, 9) = 9",
            "cardTold(12, 3, 3) = 1001", "cards(2, 2, 4, 10) = -12", "count(4) = 30", "cards(2, 2, 0, 10) = 10", "cards(2, 2, 0, 10) = 0", "count(4) = 40");
    }

    private static void cardsLeftOut() {
        check.says("n of them (0 .. 10): how many came (others are left out)");
        Run x = forCards().ints(0, 6, 0, 0, 5, 0, 2, 0, 5, 0, 0, 2, 5, 0, 0, 0, 10000000, -1, 0, 0, 5, 0, -1, 0, 5, 0, 0, -1, 5, 0, 0, 0, -1, 5, 1, 1, 9999999);
        x.rows("cards(0, 2, 0, 8) = 0", "count(4) = 0", "cards(0, 2, 0, 9) = 1", "count(4) = 1", "cardTold(0, 0, 0) = 5", "cardTold(0, 1, 0) = 1",
            "cardTold(0, 2, 0) = 1", "cardTold(0, 3, 0) = 9999999", "cards(0, 2, 28, 2) = 1", "count(4) = 2");
        for (int c = 2; c < 39; c++) {
            x.rows("card(0, 0, 0, 0) = " + c);
        }
        x.ints(1, 0, 0, 0, 1, 0, 0, 0, 2, 9, 0, 0, 0).rows("cards(1, 2, 0, 3) = 1", "count(4) = 40", "cardTold(39, 3, 0) = 1", "cards(1, 2, 0, 2) = 0");
        run().ints(0, 0, 0, 0, 0).rows("cards(0, 2, 0, 1) = 0", "count(4) = 0", "drum(0, 0, 0)", "cards(0, 2, 0, 1) = 0", "shake(0, 0, 0)", "cards(0, 2, 0, 1) = 1");
    }

    private static void cardsAnswers() {
        check.says("BAD: SHEET, sort, n; -11; -13; -12: what stood ahead came.");
        Run x = forCards().ints(0, 0, 0, 0, 1, 0, 0, 0, 2, 0, 0, 0).rows("sheet(1, 1, 4)");
        x.all(-2, "cards(-1, 2, 0, 1)", "cards(4, 2, 0, 1)", "cards(MIN, 2, 0, 1)", "cards(MAX, 2, 0, 1)", "cards(0, -1, 0, 1)", "cards(0, 3, 0, 1)",
            "cards(0, MIN, 0, 1)", "cards(0, MAX, 0, 1)", "cards(0, 2, 0, -1)", "cards(0, 2, 0, 11)", "cards(0, 2, 0, MIN)", "cards(0, 2, 0, MAX)",
            "cards(3, 3, 0, 1)", "cards(3, 2, 0, 11)", "cards(1, 2, 0, 11)", "cards(3, -1, 0, 1)");
        x.all(-11, "cards(2, 2, 0, 1)", "cards(3, 0, 0, 1)", "cards(3, 0, -1, 1)", "cards(3, 0, 99, 0)");
        x.all(-13, "cards(0, 1, 0, 1)", "cards(0, 0, 0, 1)", "cards(1, 2, 0, 1)", "cards(1, 0, -1, 1)", "cards(1, 2, 99, 0)");
        x.all(-12, "cards(0, 2, -1, 1)", "cards(0, 2, -4, 2)", "cards(0, 2, MIN, 1)", "cards(0, 2, 8, 1)", "cards(0, 2, 11, 1)", "cards(0, 2, 40, 1)", "cards(0, 2, MAX, 1)",
            "cards(0, 2, 2147483644, 2)", "cards(0, 2, MIN, 10)", "cards(1, 1, 1, 1)").rows("count(4) = 0");
        x.rows("cards(0, 2, 0, 3) = -12", "count(4) = 2", "cardTold(0, 3, 0) = 1", "cardTold(1, 3, 0) = 2", "cards(0, 2, 4, 2) = -12",
            "count(4) = 3", "cards(0, 2, 3, 3) = -12", "count(4) = 5", "cards(1, 1, 0, 2) = -12", "count(4) = 6", "cards(1, 1, 0, 1) = 1");
    }

    private static void takenAnswers() {
        check.says("A CARD taken for one of a KIND (also of one that is one): its number. BAD: KIND; -12: c isn't 0 .. 39; -11: there is none yet; -13.");
        String[] above = {"0", "01", "02", "023", "014", "025"};
        Run x = forCards();
        for (int kind = 0; kind < 6; kind++) {
            x.rows("taken(" + kind + ", 0) = -11", "card(" + kind + ", 0, 0, 0) = " + kind);
            for (int wanted = 0; wanted < 6; wanted++) {
                x.due("taken(" + kind + ", " + wanted + ")", above[kind].indexOf('0' + wanted) >= 0 ? kind : -13);
            }
        }
        x.all(-2, "taken(0, -1)", "taken(0, 6)", "taken(0, MIN)", "taken(0, MAX)", "taken(40, 6)", "taken(39, -1)", "taken(-1, 6)");
        x.all(-12, "taken(-1, 0)", "taken(40, 0)", "taken(MIN, 0)", "taken(MAX, 5)").all(-11, "taken(6, 0)", "taken(39, 0)", "taken(6, 5)");
        for (int c = 6; c < 40; c++) {
            x.rows("card(3, 1, 1, 0) = " + c);
        }
        x.rows("taken(39, 3) = 39", "taken(39, 2) = 39", "taken(39, 0) = 39", "taken(39, 1) = -13", "taken(39, 5) = -13", "taken(40, 3) = -12", "wrong(39, 1)",
            "taken(39, 3) = 39");
    }

    /** All that there may be, and the dearest calls till the last one that is promised. */
    private static void fullToTheLastCall() {
        check.says("An object is used for at most 512 calls after it has been made; what later calls answer is free.");
        Run x = run();
        for (int n = 0; n < 8; n++) {
            x.rows("shell(118, " + (20 - n) + ", " + (30 - n) + ")", "drum(" + 45 * n + ", " + n + ", 0)", "shake(" + 50 * n + ", 0, 0)");
        }
        for (int c = 0; c < 40; c++) {
            x.rows("card(0, " + c % 8 + ", 0, " + (5000 + c) + ") = " + c);
        }
        long[] first = new long[6];
        for (int n = 64; n < 512; n++) {
            int which = n % 6;
            String[] calls = {"place(0, 0, 0)", "place(0, 0, 3)", "refit(0, 99999)", "refitTold(2)", "table(0, 4, 0, 0)", "strange(0)"};
            long answer = x.answer(calls[which]);
            if (n < 70) {
                first[which] = answer;
            }
            check.due("call " + (n + 1) + ", " + calls[which], answer, first[which]);
        }
    }
}
