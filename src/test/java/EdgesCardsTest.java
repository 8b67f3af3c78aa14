/** The edges that the document names for places, drums, shakes, days and cards: promises 6 to 13. */
public final class EdgesCardsTest {
    private static final Check check = new Check("EdgesCardsTest");

    public static void main(String[] args) {
        places();
        apart();
        drumNumbers();
        driftsAndNoise();
        shakeNumbers();
        depthsAndHours();
        day();
        cardNumbers();
        kindsAndTimes();
        toldOnADay();
        mendedOnce();
        wrongOrNot();
        late();
        lateByWhatIsNow();
        never();
        drumAnswers();
        clockAnswers();
        shakeAnswers();
        daysAnswers();
        cardAnswers();
        mendAnswers();
        wrongAnswers();
        cardToldAnswers();
        check.close();
    }

    private static Run run(String... rows) {
        return new Run(check, rows);
    }

    /** One drum, one shake, both at 0: a TIME is due at once. */
    private static Run small() {
        return run("shell(100, 1, 1)", "drum(0, 0, 0)", "shake(0, 0, 0)");
    }

    private static void places() {
        check.says("PLACES 0 .. 359 are on a RING");
        run().all(-2, "drum(-1, 0, 0)", "drum(MIN, 0, 0)", "drum(360, 0, 0)", "drum(MAX, 0, 0)",
            "shake(-1, 0, 0)", "shake(MIN, 0, 0)", "shake(360, 0, 0)", "shake(MAX, 0, 0)")
            .rows("drum(0, 0, 0) = 0", "drum(359, 0, 0) = 1", "shake(0, 0, 0) = 0", "shake(359, 0, 0) = 1",
                "shakeTold(0, 0) = 0", "shakeTold(1, 0) = 359");
    }

    private static void apart() {
        check.says("two are APART by the lesser way around");
        int[][] pairs = {{0, 0, 0}, {0, 1, 1}, {0, 179, 179}, {0, 180, 180}, {0, 181, 179}, {0, 359, 1}, {359, 359, 0},
            {1, 359, 2}, {1, 180, 179}, {1, 181, 180}, {1, 182, 179}, {179, 359, 180}, {178, 359, 179}, {180, 359, 179},
            {180, 180, 0}, {90, 270, 180}, {89, 270, 179}, {10, 350, 20}};
        for (int[] pair : pairs) {
            for (int turn = 0; turn < 2; turn++) {
                Run x = run("drum(" + pair[turn] + ", 0, 0)", "shake(" + pair[1 - turn] + ", 0, 0)", "card(0, 0, 0, 0)");
                x.rule("take far;call 1;").due("law(0, 0, 0)", pair[2]);
            }
        }
    }

    private static void drumNumbers() {
        check.says("DRUMS are numbered from 0 on, 8 at most");
        Run x = run("clock(-1, 0) = -1000", "clock(0, 0) = -1000");
        for (int d = 0; d < 8; d++) {
            x.rows("clock(" + d + ", 0) = -1000", "drum(" + d + ", " + (d + 1) + ", 0) = " + d, "count(2) = " + (d + 1));
        }
        x.rows("drum(9, 9, 0) = FULL", "count(2) = 8", "clock(8, 0) = -1000", "clock(7, 8) = 8", "clock(0, 1) = 1",
            "drum(9, 9, 0) = FULL", "clock(7, 0) = 8", "clock(0, 0) = 1");
    }

    private static void driftsAndNoise() {
        check.says("a PLACE, a DRIFT of its clock (-99 .. 99), NOISE (0 .. 9)");
        run().all(-2, "drum(0, -100, 0)", "drum(0, MIN, 0)", "drum(0, 100, 0)", "drum(0, MAX, 0)", "drum(0, 0, -1)",
            "drum(0, 0, MIN)", "drum(0, 0, 10)", "drum(0, 0, MAX)")
            .rows("count(2) = 0", "drum(0, -99, 0) = 0", "drum(0, 99, 9) = 1", "shake(0, 0, 0)", "card(0, 0, 0, 0)",
                "card(0, 1, 0, 0)").rule("take noise;call drift;")
            .rows("law(0, 0, 0) = 0", "law(0, 1, 0) = -99", "law(1, 0, 0) = 9", "law(1, 1, 0) = 99");
        small().all(-2000, "clock(0, -100)", "clock(0, MIN)", "clock(0, 100)", "clock(0, MAX)")
            .rows("clock(0, -99) = 0", "clock(0, 99) = -99", "clock(0, 0) = 99");
    }

    private static void shakeNumbers() {
        check.says("SHAKES are numbered from 0 on, 6 at most");
        Run x = run("shakeTold(-1, 0) = -5", "shakeTold(0, 0) = -5");
        for (int s = 0; s < 6; s++) {
            x.rows("shakeTold(" + s + ", 0) = -5", "shake(" + (s + 10) + ", 0, 0) = " + s, "count(3) = " + (s + 1));
        }
        x.rows("shake(9, 9, 9) = FULL", "count(3) = 6", "shakeTold(6, 0) = -5", "shakeTold(5, 0) = 15",
            "shakeTold(0, 0) = 10", "shakeTold(0, 1) = 0", "shakeTold(5, 2) = 0");
    }

    private static void depthsAndHours() {
        check.says("a PLACE, a DEPTH, an HOUR (0 .. 9999999)");
        run().all(-2, "shake(0, -1, 0)", "shake(0, MIN, 0)", "shake(0, 100, 0)", "shake(0, MAX, 0)", "shake(0, 0, -1)",
            "shake(0, 0, MIN)", "shake(0, 0, 10000000)", "shake(0, 0, MAX)")
            .rows("count(3) = 0", "shake(0, 0, 0) = 0", "shake(359, 99, 9999999) = 1", "shakeTold(0, 1) = 0",
                "shakeTold(0, 2) = 0", "shakeTold(1, 1) = 99", "shakeTold(1, 2) = 9999999");
    }

    private static void day() {
        check.says("DAY is 0 at first, 999 at most");
        Run x = run("count(0) = 0", "image() = 0");
        for (int n = 1; n <= 9; n++) {
            x.rows("days(100) = " + 100 * n);
        }
        x.rows("days(100) = FULL", "count(0) = 900", "days(98) = 998", "days(2) = FULL", "days(1) = 999", "days(1) = FULL",
            "count(0) = 999", "image() = 999", "strange(999) = 0", "strange(1000) = BAD");
    }

    private static void cardNumbers() {
        check.says("CARDS are numbered from 0 on, 40 at most");
        Run x = small().rows("wrong(-1, 1) = NONE", "wrong(0, 1) = NONE");
        for (int c = 0; c < 40; c++) {
            x.rows("mend(" + c + ", 1) = NONE", "card(0, 0, 0, " + (c + 100) + ") = " + c, "count(4) = " + (c + 1));
        }
        x.rows("card(1, 0, 0, 7) = FULL", "count(4) = 40", "mend(40, 1) = NONE", "cardTold(39, 3, 0) = 139",
            "cardTold(0, 3, 0) = 100", "cardTold(0, 0, 0) = 0", "cardTold(39, 0, 0) = 0", "card(1, 0, 0, 7) = FULL");
    }

    private static void kindsAndTimes() {
        check.says("of a KIND, a DRUM, a SHAKE, a time (0 .. 9999999), told on a DAY");
        small().all(-2, "card(-1, 0, 0, 0)", "card(MIN, 0, 0, 0)", "card(6, 0, 0, 0)", "card(MAX, 0, 0, 0)",
            "card(0, 0, 0, -1)", "card(0, 0, 0, MIN)", "card(0, 0, 0, 10000000)", "card(0, 0, 0, MAX)")
            .rows("count(4) = 0", "card(0, 0, 0, 0) = 0", "card(5, 0, 0, 9999999) = 1", "cardTold(0, 0, 0) = 0",
                "cardTold(0, 3, 0) = 0", "cardTold(1, 0, 0) = 5", "cardTold(1, 3, 0) = 9999999");
    }

    private static void toldOnADay() {
        check.says("HEARD on a DAY, if it was told by then and isn't WRONG (now)");
        Run x = run("drum(0, 0, 0)", "shake(0, 0, 0)", "card(0, 0, 0, 0)", "days(3)", "card(0, 0, 0, 0)", "days(1)",
            "strange(0) = 1", "strange(2) = 1", "strange(3) = 2", "strange(4) = 2");
        x.rows("wrong(0, 1)", "strange(0) = 0", "strange(2) = 0", "strange(3) = 1", "wrong(1, 1)", "strange(4) = 0",
            "wrong(0, 0)", "strange(0) = 1", "strange(4) = 1");
        x.rows("cardTold(0, 5, 4) = 0", "cardTold(1, 5, 4) = 3", "cardTold(1, 5, 0) = 3");
    }

    private static void mendedOnce() {
        check.says("MENDED once to another time, told on a DAY: KNOWN from then on");
        small().rows("card(0, 0, 0, 500)", "card(0, 0, 0, 600)", "days(5)", "mend(0, 50) = 500", "mend(0, 60) = STATE",
            "mend(0, 500) = STATE", "days(1)", "mend(0, 70) = STATE",
            "cardTold(0, 3, 0) = 500", "cardTold(0, 3, 4) = 500", "cardTold(0, 3, 5) = 50", "cardTold(0, 3, 6) = 50",
            "cardTold(0, 4, 4) = 500", "cardTold(0, 4, 5) = 50", "cardTold(0, 5, 6) = 0", "cardTold(1, 3, 6) = 600",
            "mend(1, 9) = 600", "cardTold(1, 3, 5) = 600", "cardTold(1, 3, 6) = 9");
        small().rows("card(0, 0, 0, 500)", "mend(0, 50) = 500", "cardTold(0, 3, 0) = 50");
        small().rows("days(2)", "card(0, 0, 0, 500)", "mend(0, 50) = 500", "cardTold(0, 3, 1) = 500", "cardTold(0, 3, 2) = 50");
        small().rows("card(0, 0, 0, 500)", "mend(0, 500) = 500", "mend(0, 7) = STATE", "cardTold(0, 3, 0) = 500");
        small().rows("card(0, 0, 0, 500)", "mend(0, 0) = 500", "cardTold(0, 3, 0) = 0", "mend(0, 500) = STATE",
            "cardTold(0, 3, 0) = 0");
    }

    private static void wrongOrNot() {
        check.says("WRONG or not (at first)");
        small().rows("card(0, 0, 0, 0)", "cardTold(0, 6, 0) = 0", "wrong(0, 0) = 0", "wrong(0, 1) = 0", "cardTold(0, 6, 0) = 1",
            "wrong(0, 1) = 1", "card(0, 0, 0, 0)", "cardTold(1, 6, 0) = 0", "wrong(0, 0) = 1", "cardTold(0, 6, 0) = 0");
    }

    private static void late() {
        check.says("It is LATE by its time as KNOWN less DRIFT of the DRUM (now), less HOUR of the SHAKE, less what is DUE of its KIND "
            + "for how far both are APART and the SHAKE's DEPTH");
        run("shell(200, 99, 99)", "shell(200, 99, 99)", "shell(190, 99, 99)", "drum(0, 99, 0)", "drum(180, -99, 0)",
            "shake(0, 99, 9999999)", "shake(0, 0, 0)",
            "card(0, 0, 1, 9999999)", "cardTold(0, 4, 0) = 9999900", "clock(0, -99)", "cardTold(0, 4, 0) = 10000098",
            "card(0, 0, 0, 0)", "cardTold(1, 4, 0) = -9999900", "clock(0, 99)", "cardTold(1, 4, 0) = -10000098",
            "card(0, 0, 0, 9999999)", "cardTold(2, 4, 0) = -99", "clock(0, 0)", "cardTold(2, 4, 0) = 0");
        run("shell(200, 99, 99)", "drum(180, 99, 0)", "shake(0, 0, 9999999)", "card(1, 0, 0, 0)",
            "cardTold(0, 4, 0) = " + -(9999999 + 99 + 106920));
        int[] due = {550, 1150, 2100, 2200, 875, 4200};
        for (int kind = 0; kind < 6; kind++) {
            run("shell(100, 10, 20)", "shell(100, 8, 15)", "drum(355, 7, 0)", "shake(5, 50, 1000)", "card(" + kind + ", 0, 0, 3000)",
                "cardTold(0, 4, 0) = " + (3000 - 7 - 1000 - due[kind]));
        }
    }

    private static void lateByWhatIsNow() {
        check.says("WRONG or not (at first). It is LATE by its time as KNOWN less DRIFT of the DRUM (now)");
        run("shell(100, 1, 1)", "drum(10, 5, 0)", "shake(0, 0, 7)", "card(0, 0, 0, 200)", "days(1)",
            "cardTold(0, 4, 0) = 128", "clock(0, 6)", "cardTold(0, 4, 0) = 127", "pace(0, 0, 2)", "cardTold(0, 4, 0) = 67",
            "settle(0, 1) = 67", "cardTold(0, 4, 0) = 0", "mend(0, 201)", "cardTold(0, 4, 0) = 0", "cardTold(0, 4, 1) = 1");
    }

    private static void never() {
        check.says("(NEVER: nothing is DUE)");
        run("drum(90, 0, 0)", "drum(91, 0, 0)", "drum(40, 0, 0)", "drum(41, 0, 0)", "shake(0, 0, 0)",
            "card(2, 0, 0, 0)", "card(2, 1, 0, 0)", "card(1, 2, 0, 0)", "card(1, 3, 0, 0)", "card(0, 3, 0, 9999999)")
            .all(1000000000, "cardTold(0, 4, 0)", "cardTold(1, 4, 0)", "cardTold(2, 4, 0)", "cardTold(3, 4, 0)",
                "cardTold(4, 4, 0)")
            .rows("shell(10, 1, 1)", "shell(10, 1, 0)", "cardTold(0, 4, 0) = -110", "cardTold(1, 4, 0) = NEVER",
                "cardTold(2, 4, 0) = -240", "cardTold(3, 4, 0) = NEVER", "cardTold(4, 4, 0) = 9999738");
    }

    private static void drumAnswers() {
        check.says("A DRUM: its number. BAD; FULL.");
        Run x = run();
        for (int d = 0; d < 8; d++) {
            x.all(-2, "drum(360, 0, 0)", "drum(0, 100, 0)", "drum(0, 0, 10)").rows("drum(0, 0, 0) = " + d);
        }
        x.all(-2, "drum(360, 0, 0)", "drum(-1, 0, 0)", "drum(0, 100, 0)", "drum(0, -100, 0)", "drum(0, 0, 10)",
            "drum(0, 0, -1)").all(-4, "drum(0, 0, 0)", "drum(359, 99, 9)");
    }

    private static void clockAnswers() {
        check.says("DRIFT of a DRUM: what it was. -1000: no such DRUM; -2000: it isn't -99 .. 99.");
        run("drum(0, 7, 0)", "drum(0, -8, 0)").all(-1000, "clock(-1, 0)", "clock(2, 0)", "clock(MIN, 0)", "clock(MAX, 0)",
            "clock(8, 0)", "clock(2, 100)", "clock(-1, -100)").all(-2000, "clock(1, 100)", "clock(1, -100)", "clock(0, MIN)")
            .rows("clock(0, 99) = 7", "clock(1, -99) = -8", "clock(0, 0) = 99", "clock(1, 0) = -99", "clock(1, 0) = 0");
    }

    private static void shakeAnswers() {
        check.says("A SHAKE: its number. BAD; FULL.");
        Run x = run();
        for (int s = 0; s < 6; s++) {
            x.all(-2, "shake(360, 0, 0)", "shake(0, 100, 0)", "shake(0, 0, 10000000)").rows("shake(0, 0, 0) = " + s);
        }
        x.all(-2, "shake(360, 0, 0)", "shake(-1, 0, 0)", "shake(0, 100, 0)", "shake(0, -1, 0)", "shake(0, 0, 10000000)",
            "shake(0, 0, -1)").all(-4, "shake(0, 0, 0)", "shake(359, 99, 9999999)");
    }

    private static void daysAnswers() {
        check.says("n DAYS (1 .. 100) go by: DAY. BAD; FULL: beyond 999.");
        Run x = run().all(-2, "days(0)", "days(-1)", "days(MIN)", "days(101)", "days(MAX)").rows("count(0) = 0", "days(1) = 1",
            "days(100) = 101");
        for (int n = 2; n <= 9; n++) {
            x.rows("days(100) = " + (1 + 100 * n));
        }
        x.rows("days(99) = FULL", "days(100) = FULL", "days(101) = BAD", "days(0) = BAD", "count(0) = 901", "days(98) = 999",
            "days(1) = FULL", "days(100) = FULL", "days(0) = BAD", "days(-1) = BAD", "days(101) = BAD", "count(0) = 999");
    }

    private static void cardAnswers() {
        check.says("A CARD: its number. NONE: DRUM, SHAKE; BAD: KIND, time; FULL.");
        run("card(0, 0, 0, 0) = NONE", "drum(0, 0, 0)", "card(0, 0, 0, 0) = NONE", "shake(0, 0, 0)", "card(0, 0, 0, 0) = 0");
        run("shake(0, 0, 0)", "card(0, 0, 0, 0) = NONE");
        Run x = small().all(-1, "card(0, -1, 0, 0)", "card(0, 1, 0, 0)", "card(0, MIN, 0, 0)", "card(0, MAX, 0, 0)",
            "card(0, 0, -1, 0)", "card(0, 0, 1, 0)", "card(0, 0, MIN, 0)", "card(0, 0, MAX, 0)", "card(6, 1, 0, 0)",
            "card(0, 1, 0, -1)", "card(-1, 0, 1, 10000000)", "card(0, 8, 0, 0)", "card(0, 0, 6, 0)");
        for (int c = 0; c < 40; c++) {
            x.rows("card(0, 0, 0, 0) = " + c);
        }
        x.all(-1, "card(0, 1, 0, 0)", "card(0, 0, 1, 0)", "card(0, -1, 0, 0)").all(-2, "card(6, 0, 0, 0)", "card(-1, 0, 0, 0)",
            "card(0, 0, 0, -1)", "card(0, 0, 0, 10000000)").all(-4, "card(0, 0, 0, 0)", "card(5, 0, 0, 9999999)");
    }

    private static void mendAnswers() {
        check.says("A CARD is MENDED: its time as it was told. NONE; BAD; STATE: it was.");
        small().rows("mend(0, 0) = NONE", "card(0, 0, 0, 77)", "card(0, 0, 0, 78)").all(-1, "mend(-1, 0)", "mend(2, 0)",
            "mend(MIN, 0)", "mend(MAX, 0)", "mend(40, 0)", "mend(2, -1)", "mend(-1, 10000000)")
            .all(-2, "mend(0, -1)", "mend(0, MIN)", "mend(0, 10000000)", "mend(0, MAX)")
            .rows("cardTold(0, 3, 0) = 77", "mend(0, 9999999) = 77", "mend(1, 0) = 78").all(-2, "mend(0, -1)", "mend(0, 10000000)")
            .all(-3, "mend(0, 0)", "mend(0, 9999999)", "mend(1, 78)").rows("cardTold(0, 3, 0) = 9999999", "cardTold(1, 3, 0) = 0");
    }

    private static void wrongAnswers() {
        check.says("A CARD is WRONG (1), or not (0): which it was. NONE; BAD.");
        small().rows("wrong(0, 1) = NONE", "card(0, 0, 0, 0)").all(-1, "wrong(-1, 1)", "wrong(1, 1)", "wrong(MIN, 0)",
            "wrong(MAX, 0)", "wrong(40, 0)", "wrong(1, 2)", "wrong(-1, -1)")
            .all(-2, "wrong(0, -1)", "wrong(0, 2)", "wrong(0, MIN)", "wrong(0, MAX)")
            .rows("cardTold(0, 6, 0) = 0", "wrong(0, 1) = 0", "wrong(0, 2) = BAD", "wrong(0, 1) = 1", "wrong(0, 0) = 1",
                "wrong(0, 0) = 0");
    }

    private static void cardToldAnswers() {
        check.says("Of a CARD, as KNOWN on a DAY (0 .. this one), what 0 KIND, 1 DRUM, 2 SHAKE, 3 time, 4 how LATE "
            + "(1000000000: NEVER), 5 the DAY on which it was told, 6 WRONG (1, 0; now). "
            + "-1000000000: no such CARD; -1000000001: DAY; -1000000002: what.");
        Run x = run("drum(0, 0, 0)", "drum(50, 5, 0)", "shake(0, 0, 0)", "shake(0, 0, 0)", "shake(60, 0, 100)", "days(2)",
            "cardTold(0, 0, 0) = -1000000000", "card(5, 1, 2, 900)", "days(1)", "mend(0, 901)", "wrong(0, 1)");
        x.rows("cardTold(0, 0, 3) = 5", "cardTold(0, 1, 3) = 1", "cardTold(0, 2, 3) = 2", "cardTold(0, 3, 3) = 901",
            "cardTold(0, 3, 2) = 900", "cardTold(0, 4, 3) = NEVER", "cardTold(0, 5, 3) = 2", "cardTold(0, 6, 3) = 1",
            "cardTold(0, 6, 0) = 1", "cardTold(0, 0, 0) = 5", "cardTold(0, 1, 0) = 1", "cardTold(0, 2, 0) = 2");
        x.all(-1000000000, "cardTold(-1, 0, 0)", "cardTold(1, 0, 0)", "cardTold(MIN, 0, 0)", "cardTold(MAX, 0, 0)",
            "cardTold(40, 0, 0)", "cardTold(1, 7, 4)", "cardTold(-1, -1, -1)");
        x.all(-1000000001, "cardTold(0, 0, -1)", "cardTold(0, 0, 4)", "cardTold(0, 0, MIN)", "cardTold(0, 0, MAX)",
            "cardTold(0, 7, 4)", "cardTold(0, -1, -1)");
        x.all(-1000000002, "cardTold(0, -1, 0)", "cardTold(0, 7, 3)", "cardTold(0, MIN, 0)", "cardTold(0, MAX, 3)");
    }
}
