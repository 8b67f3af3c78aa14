/** The edges that the document names for the ball: "THE BALL", KINDS, promises 1 to 5. */
public final class EdgesBallTest {
    private static final Check check = new Check("EdgesBallTest");
    private static final String THREE = "shell(100, 10, 20)";
    private static final int[] FROM = {0, 15, 40, 65, 90};
    private static final int[] TO = {40, 75, 110, 145, 180};
    private static final int[] QUICKER = {99, 60, 30, 10, 1};

    public static void main(String[] args) {
        aNewObject();
        radius();
        shellNumbers();
        thickness();
        allThickness();
        slows();
        goesNot();
        far();
        stopsWhereItGoesNot();
        leadsDown();
        girthIsCut();
        stretches();
        lastOfAll();
        leastOfThem();
        doesNotCome();
        backFromAShell();
        backOfAllAbove();
        backThroughNoSlow();
        down();
        downWithoutShells();
        depths();
        timeAtLeastZero();
        swayAtLeastZero();
        backAtTheLast();
        deepTwiceDown();
        lateHalf();
        edge();
        asTheKindAbove();
        shellAnswers();
        paceAnswers();
        dueAnswers();
        shadowAnswers();
        check.close();
    }

    private static Run run(String... rows) {
        return new Run(check, rows);
    }

    private static void aNewObject() {
        check.says("No SHELLS, DRUMS, SHAKES; DAY 0.");
        run("count(0) = 0", "count(1) = 0", "count(2) = 0", "count(3) = 0", "count(4) = 0");
        run("shell(1, 1, 1) = 0", "drum(0, 0, 0) = 0", "shake(0, 0, 0) = 0", "card(0, 0, 0, 0) = 0", "image() = 0");
        Run used = run(THREE, "drum(1, 2, 3)", "shake(1, 2, 3)", "card(0, 0, 0, 9)", "days(9)", "image()");
        run("count(0) = 0", "count(1) = 0", "count(2) = 0", "count(3) = 0", "count(4) = 0", "back() = STATE");
        used.rows("count(0) = 9", "count(1) = 1", "count(2) = 1", "count(3) = 1", "count(4) = 1", "back() = 9");
    }

    private static void radius() {
        check.says("THE BALL has a RADIUS of 600");
        run("shell(1, 1, 99)", "due(0, 1, 0) = 6", "due(0, 180, 0) = 1080", "due(1, 1, 0) = 594", "due(1, 180, 0) = 106920");
    }

    private static void shellNumbers() {
        check.says("SHELLS, numbered from 0 on from without, 5 at most");
        run("pace(-1, 0, 1) = NONE", "pace(0, 0, 1) = NONE",
            "shell(10, 11, 1) = 0", "pace(0, 0, 11) = 11", "pace(1, 0, 1) = NONE",
            "shell(10, 12, 1) = 1", "shell(10, 13, 1) = 2", "shell(10, 14, 1) = 3", "count(1) = 4", "pace(4, 0, 1) = NONE",
            "shell(10, 15, 1) = 4", "count(1) = 5", "pace(4, 0, 15) = 15",
            "shell(10, 16, 1) = FULL", "count(1) = 5", "pace(5, 0, 1) = NONE",
            "pace(0, 0, 11) = 11", "pace(1, 0, 12) = 12", "pace(4, 0, 15) = 15", "shell(10, 16, 1) = FULL");
    }

    private static void thickness() {
        check.says("each THICK 1 .. 200");
        run("shell(0, 1, 1) = BAD", "shell(-1, 1, 1) = BAD", "shell(MIN, 1, 1) = BAD", "shell(1, 1, 1) = 0");
        run("shell(201, 1, 1) = BAD", "shell(MAX, 1, 1) = BAD", "count(1) = 0", "shell(200, 1, 1) = 0");
        run("shell(1, 7, 1)", "shell(1, 1, 1)", "due(2, 0, 0) = 14");
        run("shell(200, 7, 1)", "shell(1, 1, 1)", "due(2, 0, 0) = 2800");
    }

    private static void allThickness() {
        check.says("all together 590 at most");
        run("shell(200, 1, 1) = 0", "shell(200, 1, 1) = 1", "shell(191, 1, 1) = STATE", "count(1) = 2",
            "shell(190, 1, 1) = 2", "shell(1, 1, 1) = STATE", "count(1) = 3");
        run("shell(200, 1, 1) = 0", "shell(200, 1, 1) = 1", "shell(189, 1, 1) = 2", "shell(2, 1, 1) = STATE",
            "shell(1, 1, 1) = 3", "shell(1, 1, 1) = STATE");
        run("shell(195, 1, 1) = 0", "shell(195, 1, 1) = 1", "shell(200, 1, 1) = 2", "shell(200, 1, 1) = STATE");
        run("shell(196, 1, 1) = 0", "shell(195, 1, 1) = 1", "shell(200, 1, 1) = STATE", "shell(199, 1, 1) = 2");
        run("shell(98, 1, 1)", "shell(98, 1, 1)", "shell(98, 1, 1)", "shell(98, 1, 1)", "shell(199, 1, 1) = STATE",
            "shell(198, 1, 1) = 4", "count(1) = 5");
    }

    private static void slows() {
        check.says("0 PUSH 1 .. 99, 1 SWAY 0 .. 99");
        run().all(-2, "shell(9, 0, 5)", "shell(9, -1, 5)", "shell(9, MIN, 5)", "shell(9, 100, 5)", "shell(9, MAX, 5)",
            "shell(9, 5, -1)", "shell(9, 5, MIN)", "shell(9, 5, 100)", "shell(9, 5, MAX)")
            .rows("shell(9, 1, 0) = 0", "shell(9, 99, 99) = 1", "pace(0, 0, 99) = 1", "pace(0, 1, 99) = 0",
                "pace(1, 0, 1) = 99", "pace(1, 1, 0) = 99")
            .all(-2, "pace(0, 0, 0)", "pace(0, 0, -1)", "pace(0, 0, MIN)", "pace(0, 0, 100)", "pace(0, 0, MAX)",
                "pace(0, 1, -1)", "pace(0, 1, MIN)", "pace(0, 1, 100)", "pace(0, 1, MAX)")
            .rows("pace(0, 0, 5) = 99", "pace(0, 1, 5) = 99", "pace(1, 0, 5) = 1", "pace(1, 1, 5) = 0");
    }

    private static void goesNot() {
        check.says("0: it doesn't go there");
        run("shell(9, 1, 0)", "due(1, 0, 0) = NONE", "due(0, 0, 0) = 0", "pace(0, 1, 1)", "due(1, 0, 0) = 0",
            "pace(0, 1, 0)", "due(1, 0, 0) = NONE");
    }

    private static void far() {
        check.says("LEAST of a SORT for FAR (0 .. 180)");
        for (int kind = 0; kind < 6; kind++) {
            run("shell(9, 1, 1)", "shell(9, 1, 1)").all(-2, "due(" + kind + ", -1, 0)", "due(" + kind + ", MIN, 0)",
                "due(" + kind + ", 181, 0)", "due(" + kind + ", MAX, 0)", "due(" + kind + ", 360, 0)");
        }
        run("shell(9, 2, 1)", "due(0, 0, 0) = 0", "due(0, 180, 0) = 2160", "due(1, 0, 0) = 0", "due(1, 180, 0) = 1080");
    }

    private static void stopsWhereItGoesNot() {
        check.says("over SHELLS k from 0 on, as long as SLOW isn't 0");
        Run x = run("shell(1, 99, 50)", "shell(1, 99, 0)", "shell(1, 99, 1)", "due(1, 40, 0) = 12000", "due(1, 41, 0) = NONE",
            "due(1, 180, 0) = NONE");
        int byOne = 2 * 50 + 41 * 599 / 100;
        int byTwo = 2 * (50 + 1) + 180 * 598 / 100;
        x.rows("pace(1, 1, 1)", "due(1, 41, 0) = " + byOne, "due(1, 180, 0) = " + byTwo, "pace(0, 1, 0)",
            "due(1, 41, 0) = NONE", "due(1, 0, 0) = NONE");
    }

    private static void leadsDown() {
        check.says("twice what leads down (THICK times SLOW of all SHELLS above, together)");
        Run x = run("shell(200, 99, 7)", "shell(1, 98, 5)", "shell(2, 97, 3)", "shell(3, 1, 1)");
        x.due("due(0, 90, 0)", 2 * (200 * 99 + 98 + 2 * 97) + 90 * 397 / 100);
        x.due("due(1, 90, 0)", 2 * (200 * 7 + 5 + 2 * 3) + 90 * 397 / 100);
        run("shell(200, 99, 99)", "shell(200, 1, 99)").due("due(0, 41, 0)", 2 * 200 * 99 + 41 * 4);
    }

    private static void girthIsCut() {
        check.says("FAR times GIRTH (RADIUS less all THICK above) times SLOW of k by 100 (cut)");
        Run x = run("shell(1, 1, 1)", "shell(1, 1, 1)");
        x.due("due(0, 100, 0)", 2 + 599);
        x.due("due(0, 101, 0)", 2 + 604);
        x.due("due(0, 99, 0)", 2 + 593);
        Run y = run("shell(200, 1, 1)", "shell(200, 1, 1)", "shell(189, 1, 1)", "shell(1, 1, 1)", "due(0, 180, 0) = "
            + (2 * 589 + 19), "due(0, 173, 0) = " + (2 * 589 + 19), "due(0, 172, 0) = " + (2 * 589 + 18));
        y.due("due(1, 146, 0)", 2 * 589 + 16);
        run("shell(100, 1, 1)", "due(0, 1, 0) = 6", "pace(0, 0, 99)", "due(0, 179, 0) = 106326");
    }

    /** Each shell is so much quicker than the one above it that it is taken wherever it may be. */
    private static Run quicker(int sway) {
        Run x = run();
        for (int k = 0; k < 5; k++) {
            x.rows("shell(1, " + QUICKER[k] + ", " + (k < sway ? QUICKER[k] : 0) + ")");
        }
        return x;
    }

    private static int by(int k, int far) {
        int down = 0;
        for (int above = 0; above < k; above++) {
            down += QUICKER[above];
        }
        return 2 * down + far * (600 - k) * QUICKER[k] / 100;
    }

    private static void stretches() {
        check.says("just if FAR is between 25 k - 10 (0 for k 0) and 40 + 35 k (180 for the last SHELL of all)");
        for (int k = 0; k < 5; k++) {
            Run x = quicker(5);
            x.due("due(0, " + FROM[k] + ", 0)", by(k, FROM[k]));
            if (k > 0) {
                x.due("due(0, " + (FROM[k] - 1) + ", 0)", by(k - 1, FROM[k] - 1));
            }
            Run alone = quicker(k + 1);
            alone.due("due(1, " + TO[k] + ", 0)", by(k, TO[k]));
            if (k < 4) {
                alone.rows("due(1, " + (TO[k] + 1) + ", 0) = NONE");
            }
        }
    }

    private static void lastOfAll() {
        check.says("180 for the last SHELL of all");
        Run x = run();
        for (int k = 0; k < 5; k++) {
            x.rows("shell(1, " + QUICKER[k] + ", 0)");
            x.due("due(0, 180, 0)", by(k, 180));
        }
        Run y = run("shell(1, 1, 1)", "due(1, 180, 0) = 1080", "shell(1, 1, 0)", "due(1, 40, 0) = 240", "due(1, 41, 0) = NONE");
        y.rows("pace(1, 1, 1)", "due(1, 180, 0) = 1080", "shell(1, 1, 0)", "due(1, 75, 0) = 451", "due(1, 76, 0) = NONE");
        y.rows("shell(1, 1, 1)", "due(1, 75, 0) = 451", "due(1, 76, 0) = NONE", "due(1, 180, 0) = NONE");
    }

    /** At far 20 both of the shells may be taken; the second one's way down is just as long, or not. */
    private static void leastOfThem() {
        check.says("(180 for the last SHELL of all): the least.");
        int byOne = 20 * 599 * 3 / 100;
        run("shell(1, 3, 3)", "shell(9, 3, 4)").rows("due(0, 20, 0) = 360", "due(1, 20, 0) = 360",
            "pace(0, 0, 4)", "due(0, 20, 0) = " + (8 + byOne), "pace(0, 1, 99)", "due(1, 20, 0) = " + (198 + 20 * 599 * 4 / 100));
    }

    private static void doesNotCome() {
        check.says("None: it doesn't come.");
        run("due(0, 0, 0) = NONE", "due(1, 0, 0) = NONE", "due(4, 0, 0) = NONE", "due(0, 180, 99) = NONE",
            "shell(1, 1, 1)", "due(0, 0, 0) = 0", "due(1, 0, 0) = 0", "due(4, 0, 0) = 0");
    }

    private static void backFromAShell() {
        check.says("BACK of a SORT for FAR at SHELL e (1 or more, that there is; FAR 90 at most)");
        Run x = run("due(2, 0, 0) = NONE", "due(3, 0, 0) = NONE", "due(5, 0, 0) = NONE", "shell(10, 3, 5)",
            "due(2, 0, 0) = NONE", "due(3, 0, 0) = NONE", "due(5, 0, 0) = NONE", "shell(10, 99, 99)");
        x.rows("due(2, 0, 0) = 60", "due(2, 1, 0) = 63", "due(2, 90, 0) = 330", "due(2, 91, 0) = NONE", "due(2, 180, 0) = NONE");
        x.rows("due(3, 0, 0) = 60", "due(3, 90, 0) = 330", "due(3, 91, 0) = NONE", "due(3, 180, 0) = NONE");
        x.rows("due(5, 0, 0) = 100", "due(5, 90, 0) = 550", "due(5, 91, 0) = NONE", "due(5, 180, 0) = NONE");
        x.rows("pace(0, 1, 0)", "due(5, 0, 0) = 60", "due(5, 90, 0) = 330", "due(5, 91, 0) = NONE");
    }

    private static void backOfAllAbove() {
        check.says("twice THICK times SLOW of all SHELLS above e together, and FAR times SLOW of the one just above");
        Run x = run("shell(200, 99, 98)", "shell(200, 97, 96)", "shell(100, 95, 94)", "shell(89, 93, 92)", "shell(1, 1, 1)");
        x.due("due(2, 90, 0)", 2 * (200 * 99 + 200 * 97 + 100 * 95 + 89 * 93) + 90 * 93);
        x.due("due(5, 90, 0)", 2 * (200 * 98 + 200 * 96 + 100 * 94 + 89 * 92) + 90 * 92);
    }

    private static void backThroughNoSlow() {
        check.says("none, if one of these SLOWS is 0");
        for (int k = 0; k < 4; k++) {
            int there = 2 * (3 * 10 + 4 * 20 + 5 * 30) + 7 * 30;
            int push = 2 * 3 * 50 + 7 * 50;
            run("shell(3, 50, 10)", "shell(4, 60, 20)", "shell(5, 70, 30)", "shell(6, 80, 40)", "due(5, 7, 0) = " + there,
                "pace(" + k + ", 1, 0)", "due(5, 7, 0) = " + (k < 3 ? push : there));
        }
    }

    private static void down() {
        check.says("DEPTH times SLOW for PUSH of SHELL 0 by 10 (cut");
        Run x = run("shell(100, 9, 50)", "shell(100, 99, 99)", "due(0, 10, 0) = 540", "due(0, 10, 1) = 540", "due(0, 10, 2) = 539",
            "due(0, 10, 99) = 451", "due(1, 10, 0) = 3000", "due(1, 10, 1) = 3000", "due(1, 10, 2) = 2999", "due(1, 10, 99) = 2911");
        x.rows("pace(0, 0, 99)", "due(0, 10, 1) = 5931", "due(0, 10, 99) = 4960", "due(1, 10, 99) = 2020");
        x.rows("pace(0, 0, 1)", "due(0, 10, 9) = 60", "due(0, 10, 10) = 59", "due(0, 10, 19) = 59", "due(0, 10, 20) = 58",
            "due(0, 10, 99) = 51", "pace(1, 0, 1)", "due(0, 10, 99) = 51");
    }

    private static void downWithoutShells() {
        check.says("0 without SHELLS");
        for (int kind = 0; kind < 6; kind++) {
            run("due(" + kind + ", 0, 0) = NONE", "due(" + kind + ", 0, 99) = NONE", "due(" + kind + ", 180, 99) = NONE");
        }
    }

    private static void depths() {
        check.says("DOWN for a DEPTH (0 .. 99)");
        for (int kind = 0; kind < 6; kind++) {
            Run x = run("shell(9, 10, 1)", "shell(9, 1, 1)");
            x.all(-2, "due(" + kind + ", 0, -1)", "due(" + kind + ", 0, MIN)", "due(" + kind + ", 0, 100)",
                "due(" + kind + ", 0, MAX)");
        }
        run("shell(9, 10, 1)", "shell(9, 1, 1)", "due(0, 10, 0) = 600", "due(0, 10, 99) = 501");
    }

    private static void timeAtLeastZero() {
        check.says("0 TIME: PUSH; LEAST of its SORT less DOWN, 0 at least");
        run("shell(100, 10, 99)", "due(0, 1, 58) = 2", "due(0, 1, 59) = 1", "due(0, 1, 60) = 0", "due(0, 1, 61) = 0",
            "due(0, 1, 99) = 0", "due(0, 0, 0) = 0", "due(0, 0, 1) = 0", "due(0, 0, 99) = 0");
    }

    private static void swayAtLeastZero() {
        check.says("1 SWAY (a TIME): its SORT is SWAY");
        run("shell(100, 10, 5)", "due(1, 1, 0) = 30", "due(1, 1, 29) = 1", "due(1, 1, 30) = 0", "due(1, 1, 31) = 0",
            "due(1, 1, 99) = 0", "pace(0, 1, 0)", "due(1, 1, 99) = NONE", "due(0, 1, 0) = 60");
    }

    private static void backAtTheLast() {
        check.says("2 BACK (a TIME): BACK of its SORT at the last SHELL");
        run("shell(10, 3, 0)", "shell(20, 5, 0)", "due(2, 1, 0) = 63", "shell(30, 7, 0)", "due(2, 1, 0) = 265",
            "due(2, 1, 99) = 265", "due(2, 0, 99) = 260", "shell(1, 1, 0)", "due(2, 1, 0) = 687", "due(2, 90, 0) = 1310");
    }

    private static void deepTwiceDown() {
        check.says("3 DEEP (a BACK): what is DUE as of a BACK, and twice DOWN");
        run("shell(10, 5, 0)", "shell(10, 9, 0)", "due(3, 0, 0) = 100", "due(3, 0, 1) = 100", "due(3, 0, 2) = 102",
            "due(3, 0, 3) = 102", "due(3, 0, 4) = 104", "due(3, 0, 99) = 198", "due(3, 90, 99) = 648", "due(3, 91, 99) = NONE");
    }

    private static void lateHalf() {
        check.says("4 LATE (a SWAY): half (cut) of what is DUE as of a SWAY and LEAST of PUSH, together; none, if one is none");
        run("shell(100, 10, 20)", "due(4, 1, 0) = 90", "due(4, 1, 1) = 89", "due(4, 1, 2) = 89", "due(4, 1, 99) = 40",
            "due(4, 0, 0) = 0", "due(4, 0, 99) = 0", "pace(0, 1, 5)", "due(4, 1, 29) = 30", "due(4, 1, 28) = 31",
            "due(4, 1, 30) = 30", "due(4, 1, 99) = 30", "pace(0, 1, 0)", "due(4, 1, 0) = NONE");
        run("shell(100, 10, 20)", "shell(100, 10, 0)", "due(4, 40, 0) = 3600", "due(4, 41, 0) = NONE");
        run("due(4, 0, 0) = NONE");
    }

    private static void edge() {
        check.says("5 EDGE (a BACK): its SORT is SWAY; what is DUE as of a BACK (by that SORT), or, if none is, BACK of PUSH at SHELL 1");
        run("shell(10, 3, 5)", "due(5, 0, 0) = NONE", "shell(20, 99, 0)", "due(5, 0, 0) = 100", "due(5, 2, 99) = 110",
            "shell(30, 99, 0)", "due(5, 2, 0) = 66", "pace(1, 1, 1)", "due(5, 2, 0) = 142", "pace(0, 1, 0)", "due(5, 2, 0) = 66",
            "due(5, 90, 0) = 330", "due(5, 91, 0) = NONE");
    }

    private static void asTheKindAbove() {
        check.says("(Whatever isn't told is as of the KIND above.)");
        run("shell(10, 3, 5)", "shell(10, 3, 5)", "due(3, 90, 0) = 330", "due(3, 91, 0) = NONE", "due(5, 90, 0) = 550",
            "due(5, 91, 0) = NONE");
    }

    private static void shellAnswers() {
        check.says("A SHELL within all others: its number. BAD: THICK, SLOW; STATE: all THICK come to more than 590; FULL.");
        Run three = run("shell(200, 1, 1) = 0", "shell(200, 1, 1) = 1", "shell(190, 1, 1) = 2");
        three.all(-2, "shell(0, 1, 1)", "shell(201, 1, 1)", "shell(1, 0, 1)", "shell(1, 100, 1)", "shell(1, 1, -1)",
            "shell(1, 1, 100)").rows("shell(1, 1, 1) = STATE", "shell(200, 1, 1) = STATE", "count(1) = 3");
        Run five = run("shell(118, 1, 1)", "shell(118, 1, 1)", "shell(118, 1, 1)", "shell(118, 1, 1)", "shell(117, 1, 1) = 4");
        five.rows("shell(0, 1, 1) = BAD", "shell(1, 0, 1) = BAD", "shell(1, 1, 100) = BAD", "shell(201, 1, 1) = BAD",
            "shell(2, 1, 1) = STATE", "shell(200, 1, 1) = STATE", "shell(1, 1, 1) = FULL", "count(1) = 5");
        run("shell(118, 1, 1)", "shell(118, 1, 1)", "shell(118, 1, 1)", "shell(118, 1, 1)", "shell(118, 1, 1) = 4",
            "shell(1, 1, 1) = STATE");
    }

    private static void paceAnswers() {
        check.says("SLOW of a SHELL for a SORT: what it was. NONE; BAD.");
        run("pace(0, 0, 1) = NONE", "shell(9, 5, 6)").all(-1, "pace(1, 0, 1)", "pace(-1, 0, 1)", "pace(MIN, 0, 1)",
            "pace(MAX, 0, 1)", "pace(5, 0, 1)", "pace(1, 2, 1)", "pace(1, 0, 0)", "pace(-1, -1, 100)")
            .all(-2, "pace(0, -1, 5)", "pace(0, 2, 5)", "pace(0, MIN, 5)", "pace(0, MAX, 5)", "pace(0, 0, 0)", "pace(0, 1, 100)")
            .rows("pace(0, 0, 7) = 5", "pace(0, 0, 7) = 7", "pace(0, 1, 8) = 6", "pace(0, 1, 8) = 8", "pace(0, 0, 7) = 7");
    }

    private static void dueAnswers() {
        check.says("What is DUE of a KIND. -5: KIND; BAD: FAR, DEPTH; NONE: nothing.");
        Run x = run().all(-5, "due(-1, 0, 0)", "due(6, 0, 0)", "due(MIN, 0, 0)", "due(MAX, 0, 0)", "due(6, 181, 0)",
            "due(-1, 0, 100)");
        x.all(-2, "due(0, -1, 0)", "due(0, 181, 0)", "due(0, 0, -1)", "due(0, 0, 100)", "due(5, 181, 100)");
        x.all(-1, "due(0, 0, 0)", "due(5, 0, 0)", "due(5, 180, 99)", "due(0, 180, 99)");
        x.rows(THREE, "due(0, 0, 0) = 0", "due(0, 180, 99) = 10701", "due(5, 0, 0) = NONE", "due(6, 0, 0) = -5");
    }

    private static void shadowAnswers() {
        check.says("The first stretch of FAR in which a SORT has no LEAST: what 0 from, 1 up to where. -5: SORT, what; NONE: there is none.");
        run("shadow(0, 0) = 0", "shadow(0, 1) = 180", "shadow(1, 0) = 0", "shadow(1, 1) = 180");
        for (int k = 0; k < 5; k++) {
            Run x = quicker(k + 1);
            x.rows("shadow(0, 0) = NONE", "shadow(0, 1) = NONE");
            x.due("shadow(1, 0)", k < 4 ? TO[k] + 1 : -1);
            x.due("shadow(1, 1)", k < 4 ? 180 : -1);
        }
        quicker(0).rows("shadow(1, 0) = 0", "shadow(1, 1) = 180");
        run(THREE).all(-5, "shadow(-1, 0)", "shadow(2, 0)", "shadow(MIN, 0)", "shadow(MAX, 0)", "shadow(0, -1)", "shadow(0, 2)",
            "shadow(0, MIN)", "shadow(0, MAX)").all(-1, "shadow(0, 0)", "shadow(0, 1)", "shadow(1, 0)", "shadow(1, 1)");
    }
}
