/** The edges that the document names for placing, tables, refits, calls, watches: promises 18 to 28. */
public final class EdgesPlacingTest {
    private static final Check check = new Check("EdgesPlacingTest");
    private static final long NO = DrumWorld.NO;

    public static void main(String[] args) {
        eachPlace();
        eachDepth();
        heardOfIt();
        nowhere();
        middleOne();
        likeOnes();
        thereIsNone();
        placeAnswers();
        settleAnswers();
        counts();
        tens();
        lowestTerms();
        tableOfCards();
        tableAnswers();
        cap();
        refitPush();
        refitSway();
        refitLess();
        refitLike();
        refitChangesNothing();
        refitAnswers();
        refitToldAnswers();
        calledAnswers();
        strangeAnswers();
        watchFar();
        watchMost();
        watchLike();
        watchAnswers();
        watchedAnswers();
        shakeToldAnswers();
        countAnswers();
        check.close();
    }

    private static Run run(String... rows) {
        return new Run(check, rows);
    }

    /** One shell through which a TIME takes 6 and a SWAY 12 for a place. */
    private static Run plain() {
        return run("shell(100, 1, 2)");
    }

    private static Run placed(Run x, int place, int depth, int hour, int off) {
        return x.rows("place(0, 0, 0) = " + place, "place(0, 0, 1) = " + depth, "place(0, 0, 2) = " + hour,
            "place(0, 0, 3) = " + off);
    }

    /** Cards of three drums, the middle one's told first, fit at the middle one's place alone. */
    private static Run around(int place) {
        int[] at = {place, (place + 1) % 360, (place + 359) % 360};
        Run x = plain().rows("shake(0, 0, 0)");
        for (int d = 0; d < 3; d++) {
            x.rows("drum(" + at[d] + ", 0, 0)", "card(0, " + d + ", 0, " + (5000 + (d == 0 ? 0 : 6)) + ")");
        }
        return x;
    }

    private static void eachPlace() {
        check.says("To PLACE a SHAKE as KNOWN on a DAY: for each PLACE (0 .. 359) and DEPTH (0, 20, 40, 60, 80)");
        for (int place : new int[] {0, 1, 2, 90, 179, 180, 181, 357, 358, 359}) {
            placed(around(place), place, 0, 5000, 0);
        }
    }

    /** A DEEP one is due 3 DOWNS more behind a TIME for each DEPTH, so that one tells how deep a shake was. */
    private static void eachDepth() {
        check.says("PLACE (0 .. 359) and DEPTH (0, 20, 40, 60, 80)");
        int[] deeps = {0, 10, 20, 30, 40, 50, 60, 70, 80, 90, 99};
        int[] found = {0, 0, 20, 20, 40, 40, 60, 60, 80, 80, 80};
        for (int i = 0; i < deeps.length; i++) {
            int down = deeps[i] * 10 / 10;
            Run x = run("shell(100, 10, 0)", "shell(100, 10, 0)", "drum(7, 0, 0)", "drum(17, 0, 0)", "drum(357, 0, 0)", "shake(0, 0, 0)",
                "card(3, 0, 0, " + (9000 + 2000 + 2 * down) + ")");
            x.rows("card(0, 1, 0, " + (9000 + 600 - down) + ")", "card(0, 2, 0, " + (9000 + 600 - down) + ")");
            x.rows("place(0, 0, 0) = 7", "place(0, 0, 1) = " + found[i]);
            x.due("place(0, 0, 3)", Math.abs(deeps[i] - found[i]) * 3);
        }
    }

    private static void heardOfIt() {
        check.says("of each CARD of it that is HEARD its time less DRIFT, less what is DUE of its KIND from there: an HOUR");
        Run x = plain().rows("drum(0, -99, 0)", "drum(10, 99, 0)", "shake(0, 0, 0)", "shake(0, 0, 0)", "days(1)", "card(0, 0, 0, 400)",
            "card(1, 1, 1, 700)", "days(1)", "card(0, 1, 0, 0)", "place(0, 0, 0) = STATE", "place(0, 1, 0) = 0");
        x.rows("place(0, 1, 2) = 499", "place(0, 1, 3) = 0", "place(1, 1, 2) = 481", "place(0, 2, 3) = 538");
        x.rows("place(0, 2, 0) = 10", "place(0, 2, 2) = -99", "wrong(2, 1)", "place(0, 2, 2) = 499", "mend(0, 401)");
        x.rows("place(0, 1, 2) = 499", "place(0, 2, 2) = 500", "wrong(0, 1)", "place(0, 1, 2) = STATE", "clock(1, 0)",
            "place(1, 1, 2) = 580");
    }

    private static void nowhere() {
        check.says("(if for one of these CARDS nothing is DUE, it is not there)");
        Run x = run("shell(100, 1, 1)", "shell(100, 1, 1)", "drum(0, 0, 0)", "drum(180, 0, 0)", "drum(1, 0, 0)", "drum(359, 0, 0)",
            "shake(0, 0, 0)", "card(2, 0, 0, 290)");
        placed(x, 0, 0, 90, 0);
        placed(x.rows("card(2, 1, 0, 290)"), 90, 0, 0, 0);
        placed(x.rows("card(2, 3, 0, 291)"), 270, 0, 0, 2);
        x.rows("card(2, 2, 0, 290)").all(-3, "place(0, 0, 0)", "place(0, 0, 1)", "place(0, 0, 2)", "place(0, 0, 3)");
        placed(x.rows("wrong(2, 1)"), 90, 0, 0, 1);
    }

    private static void middleOne() {
        check.says("the middle one of these (of an even number the lesser of both); OFF: how far all are from that, together");
        String[] cards = {"card(0, 0, 0, 900)", "card(0, 0, 0, 100)", "card(0, 0, 0, 500)", "card(0, 0, 0, 200)", "card(0, 0, 0, 700)",
            "card(0, 0, 0, 9999999)"};
        int[] middle = {900, 100, 500, 200, 500, 500};
        int[] off = {0, 800, 800, 1100, 1300, 1300 + 9999499};
        Run x = plain().rows("drum(0, 0, 0)", "shake(0, 0, 0)");
        for (int i = 0; i < cards.length; i++) {
            placed(x.rows(cards[i]), 0, 0, middle[i], off[i]);
        }
        Run like = plain().rows("drum(0, 0, 0)", "shake(0, 0, 0)", "card(0, 0, 0, 7)", "card(0, 0, 0, 7)", "card(0, 0, 0, 9)");
        placed(like, 0, 0, 7, 2);
        placed(like.rows("card(0, 0, 0, 9)"), 0, 0, 7, 4);
        placed(like.rows("card(0, 0, 0, 9)"), 0, 0, 9, 4);
        Run forty = plain().rows("drum(0, 0, 0)", "shake(0, 0, 0)");
        for (int c = 0; c < 40; c++) {
            forty.rows("card(0, 0, 0, " + (c < 20 ? 1000 : 9999999) + ")");
        }
        placed(forty, 0, 0, 1000, 20 * 9998999);
    }

    private static void likeOnes() {
        check.says("The PLACE and DEPTH with the least OFF; of like ones the least PLACE, then DEPTH.");
        Run x = plain().rows("drum(300, 0, 0)", "shake(9, 9, 0)", "card(0, 0, 0, 5000)");
        placed(x, 0, 0, 5000 - 360, 0);
        placed(x.rows("drum(100, 0, 0)", "card(0, 1, 0, 5000)"), 20, 0, 5000 - 480, 0);
        Run deeper = run("shell(100, 1, 0)", "shell(100, 3, 0)", "shell(100, 1, 0)", "drum(100, 0, 0)", "shake(0, 0, 0)",
            "card(0, 0, 0, 5000)", "card(3, 0, 0, 5800)");
        placed(deeper, 92, 80, 5000 - 48 + 8, 0);
        int[] deeps = {9, 10, 11};
        for (int deep : deeps) {
            int time = 9600 - deep;
            Run y = run("shell(100, 10, 0)", "shell(100, 10, 0)", "drum(300, 0, 0)", "drum(310, 0, 0)", "drum(290, 0, 0)", "shake(0, 0, 0)",
                "card(3, 0, 0, " + (11000 + 2 * deep) + ")", "card(0, 1, 0, " + time + ")", "card(0, 2, 0, " + time + ")");
            y.rows("place(0, 0, 0) = 300", "place(0, 0, 1) = " + (deep > 10 ? 20 : 0), "place(0, 0, 3) = " + (deep == 10 ? 30 : 27));
        }
    }

    private static void thereIsNone() {
        check.says("(There is none, if no CARD is HEARD, or it can be nowhere.)");
        Run x = plain().rows("drum(0, 0, 0)", "shake(0, 0, 0)", "shake(1, 1, 1)", "place(0, 0, 0) = STATE", "settle(0, 0) = NO+2",
            "card(0, 0, 1, 5)", "place(0, 0, 0) = STATE", "place(1, 0, 0) = 0", "card(0, 0, 0, 5)", "wrong(1, 1)",
            "place(0, 0, 0) = STATE", "settle(0, 0) = NO+2", "wrong(1, 0)", "place(0, 0, 0) = 0");
        x.rows("card(2, 0, 0, 5)", "place(0, 0, 0) = STATE", "settle(0, 0) = NO+2", "shell(100, 1, 1)", "place(0, 0, 0) = 40", "place(0, 0, 2) = -235");
        run("drum(0, 0, 0)", "shake(0, 0, 0)", "card(0, 0, 0, 5)", "place(0, 0, 0) = STATE", "settle(0, 0) = NO+2",
            "shakeTold(0, 0) = 0");
    }

    private static void placeAnswers() {
        check.says("A SHAKE PLACED as KNOWN: what 0 PLACE, 1 DEPTH, 2 HOUR, 3 OFF. NO: SHAKE; BAD: known, what; STATE: there is none.");
        Run x = around(5).all(NO, "place(-1, 0, 0)", "place(1, 0, 0)", "place(MIN, 0, 0)", "place(MAX, 0, 0)", "place(6, 0, 0)",
            "place(1, 1, 0)", "place(1, 0, 4)", "place(-1, -1, -1)");
        x.all(-2, "place(0, -1, 0)", "place(0, 1, 0)", "place(0, MIN, 0)", "place(0, MAX, 0)", "place(0, 0, -1)", "place(0, 0, 4)",
            "place(0, 0, MIN)", "place(0, 0, MAX)", "place(0, 1, 4)");
        placed(x, 5, 0, 5000, 0).rows("days(1)", "place(0, 1, 0) = 5", "place(0, 2, 0) = BAD", "shakeTold(0, 0) = 0");
        run("shake(0, 0, 0)", "place(0, 0, 4) = BAD", "place(0, 1, 0) = BAD", "place(0, 0, 3) = STATE");
    }

    /** One card whose drum's clock is off: a shake at its drum's place, so early or late. */
    private static Run settled(int drift, int time) {
        return plain().rows("drum(0, " + drift + ", 0)", "shake(9, 9, 500)", "card(0, 0, 0, " + time + ")");
    }

    private static void settleAnswers() {
        check.says("A SHAKE becomes what it is PLACED (its HOUR 0 .. 9999999, else the bound): by how much its HOUR is more. "
            + "NO: SHAKE; NO and 1: known; NO and 2: there is none.");
        settled(1, 0).rows("place(0, 0, 2) = -1", "settle(0, 0) = -500", "shakeTold(0, 2) = 0", "settle(0, 0) = 0");
        settled(99, 0).rows("place(0, 0, 2) = -99", "settle(0, 0) = -500", "shakeTold(0, 2) = 0");
        settled(0, 0).rows("settle(0, 0) = -500", "shakeTold(0, 2) = 0", "shakeTold(0, 0) = 0", "shakeTold(0, 1) = 0");
        settled(0, 1).rows("settle(0, 0) = -499", "shakeTold(0, 2) = 1");
        settled(0, 500).rows("settle(0, 0) = 0", "shakeTold(0, 2) = 500");
        settled(0, 9999999).rows("settle(0, 0) = 9999499", "shakeTold(0, 2) = 9999999");
        settled(1, 9999999).rows("settle(0, 0) = 9999498", "shakeTold(0, 2) = 9999998");
        settled(-1, 9999999).rows("place(0, 0, 2) = 10000000", "settle(0, 0) = 9999499", "shakeTold(0, 2) = 9999999");
        settled(-99, 9999999).rows("settle(0, 0) = 9999499", "shakeTold(0, 2) = 9999999", "settle(0, 0) = 0");
        Run x = around(5).rows("days(1)", "shake(1, 2, 3)");
        x.all(NO, "settle(-1, 0)", "settle(2, 0)", "settle(MIN, 0)", "settle(MAX, 0)", "settle(2, 2)", "settle(-1, -1)");
        x.all(NO + 1, "settle(0, -1)", "settle(0, 2)", "settle(0, MIN)", "settle(0, MAX)", "settle(1, 2)");
        x.all(NO + 2, "settle(1, 0)", "settle(1, 1)").rows("shakeTold(0, 0) = 0", "shakeTold(1, 0) = 1", "shakeTold(1, 2) = 3");
        x.rows("settle(0, 0) = 5000", "settle(0, 1) = 0", "shakeTold(0, 0) = 5", "shakeTold(0, 2) = 5000");
    }

    private static void counts() {
        check.says("It COUNTS, if it is HEARD and take isn't 0.");
        Run x = plain().rows("drum(0, 0, 0)", "shake(0, 0, 100)", "days(1)", "card(0, 0, 0, 107)", "table(0, 0, 0, 0) = 0", "table(0, 0, 1, 0) = 7");
        x.rule("take 0;call 1;").rows("table(0, 0, 1, 0) = 0").rule("take 1;call 0;").rows("table(0, 0, 1, 0) = 7");
        x.rule("take -1;call 0;").rows("table(0, 0, 1, 0) = 7").rule("take 8192*8192*32;call 0;").rows("table(0, 0, 1, 0) = 7");
        x.rows("wrong(0, 1)", "table(0, 0, 1, 0) = 0", "table(0, 0, 1, 1) = 1", "wrong(0, 0)", "table(0, 0, 1, 0) = 7");
        Run y = plain().rows("drum(0, 0, 3)", "drum(0, 0, 4)", "shake(0, 0, 100)", "card(0, 0, 0, 149)", "card(0, 0, 0, 150)",
            "card(0, 1, 0, 101)", "table(0, 0, 0, 0) = 49", "table(0, 0, 0, 1) = 1", "card(0, 0, 0, 51)", "card(0, 0, 0, 50)");
        y.rows("table(0, 0, 0, 0) = 0", "table(0, 0, 0, 1) = 1", "days(1)", "mend(1, 148)", "table(0, 0, 0, 0) = 0",
            "table(0, 0, 1, 0) = 16", "table(0, 0, 1, 1) = 1");
    }

    private static void tens() {
        check.says("by tens of how far they are APART (0 .. 17; the last one also 180): how LATE all are together, by how many.");
        int[] fars = {0, 9, 10, 19, 20, 99, 100, 159, 160, 169, 170, 179, 180};
        int[] bins = {0, 0, 1, 1, 2, 9, 10, 15, 16, 16, 17, 17, 17};
        for (int i = 0; i < fars.length; i++) {
            Run x = plain().rows("drum(" + fars[i] + ", 0, 0)", "shake(0, 0, 100)", "card(0, 0, 0, " + (100 + 6 * fars[i] + 7) + ")");
            for (int bin = 0; bin <= 17; bin++) {
                x.rows("table(0, " + bin + ", 0, 0) = " + (bin == bins[i] ? 7 : 0), "table(1, " + bin + ", 0, 0) = 0");
            }
            x.all(NO, "table(0, 18, 0, 0)", "table(0, -1, 0, 0)");
        }
    }

    private static void lowestTerms() {
        check.says("part 0 above, 1 below the line, in lowest terms (0 by 1; also without any)");
        int[] lates = {6, 0, 0, 3, -9, 0, -1, -5, 0, 0};
        int[] above = {6, 3, 2, 9, 0, 0, -1, -3, -2, -3};
        int[] below = {1, 1, 1, 4, 1, 1, 7, 4, 3, 5};
        Run x = plain().rows("drum(0, 0, 0)", "shake(0, 0, 100)", "table(0, 0, 0, 0) = 0", "table(0, 0, 0, 1) = 1");
        for (int i = 0; i < lates.length; i++) {
            x.rows("card(0, 0, 0, " + (100 + lates[i]) + ")", "table(0, 0, 0, 0) = " + above[i], "table(0, 0, 0, 1) = " + below[i]);
        }
        Run forty = plain().rule("take 1;call 1;").rows("drum(0, -99, 0)", "shake(0, 0, 0)");
        for (int c = 0; c < 40; c++) {
            forty.rows("card(0, 0, 0, 9999999)");
        }
        forty.rows("table(0, 0, 0, 0) = 10000098", "table(0, 0, 0, 1) = 1", "mend(0, 9999998)", "table(0, 0, 0, 0) = 400003919",
            "table(0, 0, 0, 1) = 40", "mend(1, 9999998)", "table(0, 0, 0, 0) = 200001959", "table(0, 0, 0, 1) = 20");
    }

    private static void tableOfCards() {
        check.says("A TABLE of a SORT: of CARDS that COUNT, whose KIND is of that SORT, and that aren't NEVER");
        Run x = run("shell(100, 1, 2)", "shell(100, 1, 2)", "drum(0, 0, 0)", "drum(5, 0, 0)", "shake(0, 0, 0)").rule("take 1;call 1;");
        x.rows("card(0, 0, 0, 1)", "card(1, 0, 0, 2)", "card(2, 0, 0, 204)", "card(3, 0, 0, 208)", "card(4, 0, 0, 16)", "card(5, 0, 0, 432)");
        x.rows("table(0, 0, 0, 0) = 13", "table(0, 0, 0, 1) = 3", "table(1, 0, 0, 0) = 50", "table(1, 0, 0, 1) = 3");
        x.rows("pace(0, 1, 0)", "table(1, 0, 0, 0) = 232", "table(1, 0, 0, 1) = 1", "table(0, 0, 0, 0) = 13");
        x.rows("wrong(5, 1)", "table(1, 0, 0, 0) = 0", "table(1, 0, 0, 1) = 1");
    }

    private static void tableAnswers() {
        check.says("A TABLE, as KNOWN, by tens (0 .. 17): part 0 above, 1 below the line, in lowest terms (0 by 1; also without any). NO: none such.");
        Run x = run().all(NO, "table(-1, 0, 0, 0)", "table(2, 0, 0, 0)", "table(MIN, 0, 0, 0)", "table(MAX, 0, 0, 0)", "table(0, -1, 0, 0)",
            "table(0, 18, 0, 0)", "table(0, MIN, 0, 0)", "table(0, MAX, 0, 0)", "table(0, 0, -1, 0)", "table(0, 0, 1, 0)",
            "table(0, 0, MIN, 0)", "table(0, 0, MAX, 0)", "table(0, 0, 0, -1)", "table(0, 0, 0, 2)", "table(0, 0, 0, MIN)", "table(0, 0, 0, MAX)");
        for (int bin = 0; bin <= 17; bin++) {
            x.rows("table(0, " + bin + ", 0, 0) = 0", "table(1, " + bin + ", 0, 1) = 1");
        }
        x.rows("days(1)", "table(0, 0, 1, 1) = 1", "table(0, 0, 2, 1) = NO");
    }

    private static void cap() {
        check.says("ALL OFF as KNOWN on a DAY, with a CAP: of all CARDS that are HEARD how LATE each is, without sign, the CAP at most "
            + "(NEVER: the CAP), together");
        Run x = plain().rows("drum(0, 0, 0)", "shake(0, 0, 500000)", "card(0, 0, 0, 500010)", "refit(0, 9) = 9", "refit(0, 10) = 10", "refit(0, 11) = 10");
        x.rows("card(0, 0, 0, 499990)", "refit(0, 9) = 18", "refit(0, 10) = 20", "refit(0, 11) = 20", "refit(0, 1) = 2");
        x.rows("card(2, 0, 0, 500000)", "refit(0, 1) = 3", "refit(0, 10) = 30", "refit(0, 99999) = 100019");
        x.rows("card(0, 0, 0, 599999)", "refit(0, 99999) = 200018", "card(0, 0, 0, 600000)", "refit(0, 99999) = 300017",
            "card(0, 0, 0, 400000)", "refit(0, 99999) = 400016");
        x.rows("days(1)", "card(0, 0, 0, 500001)", "refit(0, 1) = 6", "refit(1, 1) = 7", "wrong(0, 1)", "refit(1, 1) = 6", "refit(0, 1) = 5");
        run("drum(0, 0, 0)", "shake(0, 0, 0)", "refit(0, 99999) = 0", "card(0, 0, 0, 0)", "card(5, 0, 0, 0)", "refit(0, 99999) = 199998",
            "refitTold(0) = -1", "refitTold(1) = -1", "refitTold(2) = -1");
    }

    private static void refitIs(Run x, String call, long all, int shell, int sort, int slow) {
        x.due(call, all);
        x.rows("refitTold(0) = " + shell, "refitTold(1) = " + sort, "refitTold(2) = " + slow);
    }

    private static void refitPush() {
        check.says("one SLOW of one SHELL and SORT put to 1, 8, 15, .. 99 (PUSH)");
        for (int slow = 1; slow <= 99; slow++) {
            int below = (slow - 1) / 7 * 7 + 1;
            int found = slow - below <= 3 ? below : below + 7;
            Run x = run("shell(100, " + (slow > 50 ? 1 : 99) + ", 0)", "drum(10, 0, 0)", "shake(0, 0, 0)", "card(0, 0, 0, " + 60 * slow + ")");
            refitIs(x, "refit(0, 99999)", 60 * Math.abs(slow - found), 0, 0, found);
        }
    }

    private static void refitSway() {
        check.says("or 0, 7, 14, .. 98 (SWAY)");
        for (int slow = 4; slow <= 99; slow++) {
            int below = slow / 7 * 7;
            int found = Math.min(98, slow - below <= 3 ? below : below + 7);
            Run x = run("shell(100, 1, " + (slow > 50 ? 1 : 99) + ")", "drum(10, 0, 0)", "shake(0, 0, 0)", "card(1, 0, 0, " + 60 * slow + ")");
            refitIs(x, "refit(0, 99999)", 60 * Math.abs(slow - found), 0, 1, found);
        }
        Run x = run("shell(100, 1, 5)", "shell(100, 1, 5)", "drum(0, 0, 0)", "shake(0, 0, 0)", "card(5, 0, 0, 200)");
        refitIs(x, "refit(0, 99999)", 0, 0, 1, 0);
        x.rows("refit(0, 799) = 0", "pace(0, 1, 5) = 5", "pace(1, 1, 0) = 5");
    }

    private static void refitLess() {
        check.says("so that ALL OFF is least, and less than it is");
        Run x = run("shell(100, 1, 0)", "drum(10, 0, 0)", "shake(0, 0, 0)", "card(0, 0, 0, 270)");
        refitIs(x, "refit(0, 99999)", 210, -1, -1, -1);
        refitIs(x.rows("pace(0, 0, 8)"), "refit(0, 99999)", 210, -1, -1, -1);
        refitIs(x.rows("pace(0, 0, 9)"), "refit(0, 99999)", 210, 0, 0, 1);
        refitIs(x, "refit(0, 211)", 210, 0, 0, 1);
        refitIs(x, "refit(0, 210)", 210, -1, -1, -1);
        refitIs(x.rows("pace(0, 0, 4)"), "refit(0, 99999)", 30, -1, -1, -1);
        refitIs(x.rows("mend(0, 480)"), "refit(0, 1)", 0, 0, 0, 8);
        refitIs(x.rows("pace(0, 0, 8)"), "refit(0, 1)", 0, -1, -1, -1);
    }

    private static void refitLike() {
        check.says("of like ones the first by SHELLS, SORTS, then the lesser; nothing changes");
        Run lesser = run("shell(100, 50, 0)", "drum(10, 0, 0)", "shake(0, 0, 0)", "card(0, 0, 0, 270)");
        refitIs(lesser, "refit(0, 99999)", 210, 0, 0, 1);
        Run sorts = run("shell(100, 50, 50)", "drum(10, 0, 0)", "shake(0, 0, 0)", "card(1, 0, 0, 420)", "card(0, 0, 0, 480)");
        refitIs(sorts, "refit(0, 1)", 1, 0, 0, 8);
        refitIs(sorts.rows("wrong(1, 1)"), "refit(0, 1)", 0, 0, 1, 7);
        Run shells = run("shell(100, 50, 50)", "shell(100, 50, 50)", "shell(100, 1, 1)", "drum(0, 0, 0)", "shake(0, 0, 0)", "card(5, 0, 0, 11400)",
            "card(2, 0, 0, 10200)");
        refitIs(shells, "refit(0, 1)", 1, 0, 0, 1);
        refitIs(shells.rows("wrong(1, 1)"), "refit(0, 1)", 0, 0, 1, 7);
    }

    private static void refitChangesNothing() {
        check.says("then the lesser; nothing changes");
        Run x = run("shell(100, 97, 33)", "shell(100, 98, 34)", "drum(10, 0, 0)", "shake(0, 0, 0)", "card(0, 0, 0, 480)", "refit(0, 99999) = 0",
            "refitTold(2) = 8", "due(0, 10, 0) = 5820", "due(1, 10, 0) = 1980", "pace(0, 0, 1) = 97", "pace(0, 1, 1) = 33", "pace(1, 0, 1) = 98",
            "pace(1, 1, 1) = 34", "cardTold(0, 4, 0) = 420");
        x.rows("count(1) = 2");
    }

    private static void refitAnswers() {
        check.says("A REFIT with a CAP (1 .. 99999): ALL OFF by it (as it is, if none lets it be less). NO: known, CAP.");
        Run x = run("refit(0, 1) = 0", "refit(0, 99999) = 0", "days(3)").all(NO, "refit(-1, 5)", "refit(4, 5)", "refit(MIN, 5)", "refit(MAX, 5)",
            "refit(0, 0)", "refit(0, -1)", "refit(0, MIN)", "refit(0, 100000)", "refit(0, MAX)", "refit(4, 0)");
        x.rows("refit(3, 1) = 0", "refit(0, 99999) = 0", "refitTold(0) = -1", "shell(1, 1, 1)", "refit(3, 1) = 0", "refitTold(0) = -1");
    }

    private static void refitToldAnswers() {
        check.says("Of the REFIT that was asked last what 0 SHELL, 1 SORT, 2 SLOW (-1 each: there was none; at first all 0). -5: what.");
        Run x = run("refitTold(0) = 0", "refitTold(1) = 0", "refitTold(2) = 0").all(-5, "refitTold(-1)", "refitTold(3)", "refitTold(MIN)",
            "refitTold(MAX)");
        x.rows("refit(0, 0) = NO", "refitTold(0) = 0", "refit(0, 1) = 0").all(-1, "refitTold(0)", "refitTold(1)", "refitTold(2)");
        x.rows("shell(100, 50, 50)", "shell(100, 50, 50)", "drum(90, 0, 0)", "shake(0, 0, 0)", "card(1, 0, 0, 13150)");
        refitIs(x, "refit(0, 99999)", 0, 1, 1, 7);
        refitIs(x.rows("refit(1, 5) = NO", "refit(0, 0) = NO"), "refit(0, 1)", 0, 1, 1, 7);
    }

    private static void calledAnswers() {
        check.says("KINDS (bits) of which a CARD's time, less DRIFT and HOUR, as KNOWN, is off what is DUE by so much (0 .. 99999) at most. -5: CARD; BAD.");
        Run x = run("shell(100, 10, 20)", "shell(100, 8, 15)", "drum(10, 7, 0)", "shake(20, 50, 1000)");
        int[] due = {550, 1150, 2100, 2200, 875, 4200};
        for (int kind = 0; kind < 6; kind++) {
            x.rows("card(0, 0, 0, " + (1007 + due[kind]) + ")", "called(" + kind + ", 0, 0) = " + (1 << kind), "due(" + kind + ", 10, 50) = " + due[kind]);
        }
        x.rows("called(0, 324, 0) = 1", "called(0, 325, 0) = 17", "called(4, 274, 0) = 16", "called(4, 275, 0) = 18",
            "called(4, 325, 0) = 19", "called(5, 99999, 0) = 63", "called(5, 2000, 0) = 40", "called(5, 1999, 0) = 32");
        x.rows("card(1, 0, 0, " + (1007 + 550 + 99999) + ")", "called(6, 99999, 0) = 63", "card(1, 0, 0, " + (1007 + 550 + 100000) + ")",
            "called(7, 99999, 0) = 62", "card(1, 0, 0, 0)", "called(8, 99999, 0) = 63", "called(8, 1556, 0) = 0", "called(8, 1557, 0) = 1");
        x.rows("clock(0, 6)", "called(0, 0, 0) = 0", "called(0, 1, 0) = 1", "days(1)", "mend(0, 1006)", "called(0, 549, 1) = 0", "called(0, 550, 1) = 1",
            "called(0, 1, 0) = 1", "pace(0, 1, 0)", "called(0, 99999, 1) = 45");
        x.all(-5, "called(-1, 0, 0)", "called(9, 0, 0)", "called(MIN, 0, 0)", "called(MAX, 0, 0)", "called(9, -1, 0)", "called(9, 0, 2)");
        x.all(-2, "called(0, -1, 0)", "called(0, MIN, 0)", "called(0, 100000, 0)", "called(0, MAX, 0)", "called(0, 0, -1)", "called(0, 0, 2)",
            "called(0, 0, MIN)", "called(0, 0, MAX)");
        run("drum(0, 0, 0)", "shake(0, 0, 0)", "card(0, 0, 0, 0)", "called(0, 99999, 0) = 0", "shell(1, 1, 1)", "called(0, 0, 0) = 19");
    }

    private static void strangeAnswers() {
        check.says("How many CARDS that are HEARD, as KNOWN, are NEVER due. BAD.");
        Run x = run("strange(0) = 0", "strange(1) = BAD", "strange(-1) = BAD", "strange(MIN) = BAD", "strange(MAX) = BAD", "drum(0, 0, 0)",
            "shake(0, 0, 0)");
        for (int c = 0; c < 40; c++) {
            x.rows("card(" + c % 6 + ", 0, 0, 0)", "strange(0) = " + (c + 1));
        }
        x.rows("shell(1, 1, 1)", "strange(0) = 20", "shell(1, 1, 0)", "strange(0) = 0", "pace(0, 1, 0)", "strange(0) = 13", "days(1)", "strange(1) = 13",
            "strange(2) = BAD");
    }

    private static Run near(int... numbers) {
        return run().ints(0, numbers);
    }

    private static void watchFar() {
        check.says("so far APART at most from one of its DRUMS");
        near(10).rows("drum(20, 0, 0)", "watch(0, 1, 9) = 0", "watched() = 0", "watch(0, 1, 10) = 1", "watched() = 1", "watch(0, 1, 11) = 1");
        near(359).rows("drum(0, 0, 0)", "watch(0, 1, 0) = 0", "watch(0, 1, 1) = 1");
        near(0).rows("drum(359, 0, 0)", "watch(0, 1, 0) = 0", "watch(0, 1, 1) = 1");
        near(0).rows("drum(180, 0, 0)", "watch(0, 1, 179) = 0", "watch(0, 1, 180) = 1");
        near(0).rows("drum(181, 0, 0)", "watch(0, 1, 178) = 0", "watch(0, 1, 179) = 1");
        near(7).rows("drum(7, 0, 0)", "watch(0, 1, 0) = 1", "watched() = 1");
    }

    private static void watchMost() {
        check.says("of all sets of so many DRUMS at most: the one by which most of the SHEET's numbers are");
        Run x = near(0, 40, 80, 120, 160, 200, 240, 280);
        x.rows("watch(0, 8, 180) = 0", "watched() = 0");
        for (int d = 0; d < 8; d++) {
            x.rows("drum(" + 40 * d + ", 0, 0)", "watch(0, 8, 19) = " + (d + 1), "watched() = " + ((1 << d + 1) - 1));
        }
        for (int most = 0; most <= 8; most++) {
            x.rows("watch(0, " + most + ", 19) = " + most, "watched() = " + ((1 << most) - 1));
        }
        x.rows("watch(0, 1, 180) = 8", "watched() = 1", "watch(0, 1, 40) = 3", "watched() = 2", "watch(0, 0, 180) = 0", "watched() = 0");
        int[] forty = new int[40];
        java.util.Arrays.fill(forty, 359);
        near(forty).rows("drum(359, 0, 0)", "watch(0, 8, 0) = 40", "watched() = 1");
        run("sheet(0, 2, 0)", "drum(0, 0, 0)", "watch(0, 8, 180) = 0", "watched() = 0");
    }

    private static void watchLike() {
        check.says("most of the SHEET's numbers are so far APART at most from one of its DRUMS; of like ones the least as bits");
        near(10, 200).rows("drum(200, 0, 0)", "drum(10, 0, 0)", "watch(0, 1, 0) = 1", "watched() = 1", "watch(0, 2, 0) = 2", "watched() = 3");
        near(10, 200, 200).rows("drum(10, 0, 0)", "drum(200, 0, 0)", "drum(200, 0, 0)", "watch(0, 1, 0) = 2", "watched() = 2", "watch(0, 3, 0) = 3",
            "watched() = 3");
        near(0, 10, 20).rows("drum(300, 0, 0)", "drum(0, 0, 0)", "drum(20, 0, 0)", "drum(10, 0, 0)", "watch(0, 1, 10) = 3", "watched() = 8",
            "watch(0, 2, 10) = 3", "watched() = 6", "watch(0, 2, 9) = 2", "watched() = 6");
        near(5, 5).rows("drum(5, 0, 0)", "drum(5, 0, 0)", "watch(0, 2, 0) = 2", "watched() = 1", "watch(0, 0, 0) = 0", "watched() = 0");
    }

    private static void watchAnswers() {
        check.says("WATCH, most 0 .. 8 DRUMS, far 0 .. 180: how many of the SHEET's numbers are near. -5: SHEET; -11; BAD: most, far, a number that is no PLACE.");
        Run x = near(0, 359).rows("drum(0, 0, 0)");
        x.all(-5, "watch(-1, 1, 1)", "watch(4, 1, 1)", "watch(MIN, 1, 1)", "watch(MAX, 1, 1)", "watch(4, 9, 181)", "watch(-1, -1, -1)");
        x.all(-11, "watch(1, 1, 1)", "watch(3, 1, 1)", "watch(1, 9, 1)", "watch(1, 1, 181)");
        x.all(-2, "watch(0, -1, 1)", "watch(0, 9, 1)", "watch(0, MIN, 1)", "watch(0, MAX, 1)", "watch(0, 1, -1)", "watch(0, 1, 181)",
            "watch(0, 1, MIN)", "watch(0, 1, MAX)");
        x.rows("watch(0, 0, 0) = 0", "watch(0, 8, 180) = 2", "watch(0, 8, 0) = 1", "watched() = 1");
        for (String number : new String[] {"-1", "360", "MIN", "MAX"}) {
            x.rows("cell(0, 0, 0)", "cell(0, 1, " + number + ")", "watch(0, 1, 180) = BAD", "cell(0, 0, " + number + ")", "cell(0, 1, 0)",
                "watch(0, 0, 0) = BAD", "watched() = 1");
        }
        x.rows("cell(0, 0, 359)", "watch(0, 8, 180) = 2", "sheet(3, 0, 1)", "watch(3, 1, 0) = 1", "sheet(3, -1, 0)", "watch(3, 1, 0) = -11");
    }

    private static void watchedAnswers() {
        check.says("DRUMS (bits) of the WATCH that was found last (0 at first).");
        Run x = run("watched() = 0", "watch(0, 1, 1) = -11", "watched() = 0").ints(0, 5).rows("drum(0, 0, 0)", "drum(5, 0, 0)", "watched() = 0",
            "watch(0, 1, 0) = 1", "watched() = 2", "watched() = 2", "watch(0, 9, 0) = BAD", "watched() = 2", "watch(4, 1, 0) = -5", "watched() = 2",
            "watch(0, 1, 5) = 1", "watched() = 1");
        x.rows("watch(0, 0, 0) = 0", "watched() = 0");
    }

    private static void shakeToldAnswers() {
        check.says("Of a SHAKE what 0 PLACE, 1 DEPTH, 2 HOUR. -5: no such SHAKE; -7: what.");
        run("shakeTold(0, 0) = -5", "shake(7, 8, 9)", "shakeTold(0, 0) = 7", "shakeTold(0, 1) = 8", "shakeTold(0, 2) = 9")
            .all(-5, "shakeTold(-1, 0)", "shakeTold(1, 0)", "shakeTold(MIN, 0)", "shakeTold(MAX, 0)", "shakeTold(6, 0)", "shakeTold(1, 3)",
                "shakeTold(-1, -1)").all(-7, "shakeTold(0, -1)", "shakeTold(0, 3)", "shakeTold(0, MIN)", "shakeTold(0, MAX)");
    }

    private static void countAnswers() {
        check.says("0 DAY, 1 SHELLS, 2 DRUMS, 3 SHAKES, 4 CARDS, 5 TEXTS, 6 THE RULE, 7 bytes of THE TAPE. BAD.");
        Run x = run().all(-2, "count(-1)", "count(8)", "count(MIN)", "count(MAX)").all(0, "count(0)", "count(1)", "count(2)", "count(3)",
            "count(4)", "count(6)", "count(7)").rows("count(5) = 1");
        for (int n = 0; n < 9; n++) {
            x.rows("days(100)", "shell(20, 1, 1)", "drum(0, 0, 0)", "shake(0, 0, 0)").tape("take 1;call 1;").rows("text()");
        }
        for (int n = 0; n < 41; n++) {
            x.rows("card(0, 0, 0, 0)");
        }
        x.rows("days(99)", "force(5)", "text()").tape(" ".repeat(160)).rows("count(0) = 999", "count(1) = 5", "count(2) = 8", "count(3) = 6",
            "count(4) = 40", "count(5) = 6", "count(6) = 5", "count(7) = 160", "count(-1) = BAD", "count(8) = BAD");
    }
}
