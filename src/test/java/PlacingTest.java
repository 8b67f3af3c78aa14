/** Promises 18 to 28: placing, tables, refits, what is called, strange, watched, told, counted. */
public final class PlacingTest {
    private static final long NO = DrumWorld.NO;
    private static final Check check = new Check("PlacingTest");

    public static void main(String[] args) {
        placed();
        placedByMiddle();
        placedByDepth();
        placedRefused();
        settled();
        settledAtBounds();
        tables();
        tablesOfBothSorts();
        refits();
        refitsAlike();
        refitsRefused();
        called();
        strange();
        watches();
        watchesRefused();
        shakesTold();
        counts();
        check.close();
    }

    /** One shell: what is due by PUSH is 6 for each place, all around. */
    private static DrumWorld plain() {
        DrumWorld x = new DrumWorld();
        x.shell(100, 1, 2);
        x.drum(100, 0, 0);
        x.drum(110, 3, 0);
        x.shake(0, 0, 0);
        x.shake(50, 10, 500);
        return x;
    }

    private static void isPlaced(String what, DrumWorld x, int s, int known, long... want) {
        for (int i = 0; i < 4; i++) {
            check.due("18: " + what + ", what " + i, x.place(s, known, i), want[i]);
        }
    }

    private static void placed() {
        DrumWorld x = plain();
        x.card(0, 0, 0, 5000);
        isPlaced("one card", x, 0, 0, 0, 0, 5000 - 600, 0);
        x.card(0, 1, 0, 5003 + 6 * 4);
        isPlaced("two cards 4 places apart", x, 0, 0, 103, 0, 5000 - 18, 0);
        x.card(0, 1, 0, 0);
        x.wrong(2, 1);
        isPlaced("a wrong card is not heard", x, 0, 0, 103, 0, 5000 - 18, 0);
        x.days(1);
        x.card(0, 1, 0, 0);
        isPlaced("nor one that came later", x, 0, 0, 103, 0, 5000 - 18, 0);
        x.card(0, 1, 1, 0);
        x.mend(0, 5006);
        isPlaced("nor mended ahead", x, 0, 0, 103, 0, 5000 - 18, 0);
        x.wrong(3, 1);
        isPlaced("mended", x, 0, 1, 103, 0, 5024 - 42, 6);
    }

    private static void placedByMiddle() {
        DrumWorld x = new DrumWorld();
        x.shell(100, 50, 0);
        x.drum(0, 0, 0);
        int[] times = {70000, 40000, 90000, 50000};
        for (int time : times) {
            x.card(0, 0, x.count(3) == 0 ? x.shake(0, 0, 0) : 0, time);
        }
        isPlaced("the lesser of both in the middle", x, 0, 0, 0, 0, 50000, 10000 + 20000 + 40000);
        x.wrong(1, 1);
        isPlaced("the middle of three", x, 0, 0, 0, 0, 70000, 40000);
        DrumWorld y = new DrumWorld();
        y.shell(100, 10, 0);
        y.shell(100, 10, 0);
        y.drum(180, 0, 0);
        y.shake(0, 0, 0);
        y.card(2, 0, 0, 0);
        isPlaced("not where nothing is due, and before 0", y, 0, 0, 90, 0, -2000 - 900, 0);
        y.drum(0, 0, 0);
        y.card(2, 1, 0, 0);
        isPlaced("just there", y, 0, 0, 90, 0, -2900, 0);
        y.drum(1, 0, 0);
        y.card(2, 2, 0, 0);
        isPlaced("just there", y, 0, 0, 90, 0, -2900, 10);
        y.drum(359, 0, 0);
        y.card(2, 3, 0, 0);
        check.due("18: nowhere", y.place(0, 0, 0), -3);
        y.wrong(3, 1);
        isPlaced("there again", y, 0, 0, 90, 0, -2900, 10);
    }

    private static void placedByDepth() {
        DrumWorld x = plain();
        x.card(0, 0, 0, 5000);
        x.card(1, 0, 0, 5000 + 6 * 20);
        isPlaced("of like ones the least place and depth", x, 0, 0, 80, 0, 5000 - 120, 0);
        x.card(3, 0, 0, 0);
        check.due("18: DEEP with one shell", x.place(0, 0, 0), -3);
        x.wrong(2, 1);
        x.shell(100, 1, 2);
        // from 80 a DEEP is due at 220 and twice DOWN, a TIME at 120 less DOWN, which is 6 for 60
        x.card(3, 0, 0, 5000 - 120 + 6 + 220 + 12);
        isPlaced("with a depth", x, 0, 0, 80, 60, 5000 - 120 + 6, 0);
        x.wrong(3, 1);
        x.card(3, 0, 0, 5000 - 120 + 8 + 220 + 16);
        check.due("18: the deepest", x.place(0, 0, 1), 80);
    }

    private static void placedRefused() {
        DrumWorld x = plain();
        check.due("18: no card", x.place(0, 0, 0), -3);
        check.due("18: no shake", x.place(2, 9, 9), NO);
        check.due("18: shake -1", x.place(-1, 0, 0), NO);
        check.due("18: day 1", x.place(0, 1, 0), -2);
        check.due("18: day -1", x.place(0, -1, 0), -2);
        check.due("18: what 4", x.place(0, 0, 4), -2);
        check.due("18: what -1", x.place(0, 0, -1), -2);
        x.card(0, 0, 1, 5);
        check.due("18: a card of another shake", x.place(0, 0, 0), -3);
        check.due("18: of this", x.place(1, 0, 0), 0);
        DrumWorld y = new DrumWorld();
        y.drum(0, 0, 0);
        y.shake(0, 0, 0);
        y.card(0, 0, 0, 5);
        check.due("18: no shells", y.place(0, 0, 0), -3);
        check.due("19: no shells", y.settle(0, 0), NO + 2);
    }

    private static void settled() {
        DrumWorld x = plain();
        x.card(0, 0, 1, 5000);
        x.card(0, 1, 1, 5003 + 6 * 4);
        check.due("19: more", x.settle(1, 0), 5000 - 18 - 500);
        check.due("19: place", x.shakeTold(1, 0), 103);
        check.due("19: depth", x.shakeTold(1, 1), 0);
        check.due("19: hour", x.shakeTold(1, 2), 4982);
        check.due("19: again", x.settle(1, 0), 0);
        check.due("19: late no more", x.cardTold(0, 4, 0), 0);
        check.due("19: the other one stays", x.shakeTold(0, 0), 0);
        check.due("19: no shake", x.settle(2, 9), NO);
        check.due("19: shake -1", x.settle(-1, 0), NO);
        check.due("19: day 1", x.settle(1, 1), NO + 1);
        check.due("19: day -1", x.settle(0, -1), NO + 1);
        check.due("19: there is none", x.settle(0, 0), NO + 2);
    }

    private static void settledAtBounds() {
        DrumWorld x = plain();
        x.card(0, 0, 1, 30);
        x.clock(0, 99);
        check.due("19: before 0", x.place(1, 0, 2), 30 - 99 - 600);
        check.due("19: 0 at least", x.settle(1, 0), -500);
        check.due("19: hour", x.shakeTold(1, 2), 0);
        DrumWorld y = plain();
        y.clock(0, -99);
        y.pace(0, 0, 1);
        y.card(0, 0, 1, 9999999);
        y.card(0, 0, 1, 9999999);
        y.drum(110, -99, 0);
        y.card(0, 2, 1, 9999999 - 60);
        check.due("19: behind the bound", y.place(1, 0, 2), 9999999 + 99 - 60);
        check.due("19: the bound", y.settle(1, 0), 9999999 - 500);
        check.due("19: hour", y.shakeTold(1, 2), 9999999);
        check.due("19: place", y.shakeTold(1, 0), 110);
    }

    private static void isTable(String what, DrumWorld x, int sort, int bin, int known, long above, long below) {
        check.due("20: " + what + ", above", x.table(sort, bin, known, 0), above);
        check.due("20: " + what + ", below", x.table(sort, bin, known, 1), below);
    }

    private static void tables() {
        DrumWorld x = new DrumWorld();
        x.shell(100, 1, 2);
        for (int at : new int[] {0, 9, 10, 169, 170, 179, 180}) {
            x.drum(at, 0, at == 9 ? 4 : 0);
        }
        x.shake(0, 0, 100);
        isTable("none", x, 0, 0, 0, 0, 1);
        x.card(0, 0, 0, 107);
        isTable("7 by 1", x, 0, 0, 0, 7, 1);
        x.card(0, 0, 0, 98);
        isTable("5 by 2", x, 0, 0, 0, 5, 2);
        x.card(0, 0, 0, 101);
        isTable("6 by 3", x, 0, 0, 0, 2, 1);
        x.card(0, 0, 0, 94);
        isTable("0 by 4", x, 0, 0, 0, 0, 1);
        x.card(0, 0, 0, 60);
        x.card(0, 0, 0, 96);
        isTable("-44 by 6", x, 0, 0, 0, -22, 3);
        x.card(0, 1, 0, 100 + 54 + 1);
        isTable("a noisy one doesn't count", x, 0, 0, 0, -22, 3);
        x.card(0, 0, 0, 150);
        isTable("nor a late one", x, 0, 0, 0, -22, 3);
        x.card(0, 2, 0, 100 + 60 + 2);
        isTable("10 places", x, 0, 1, 0, 2, 1);
        x.card(0, 3, 0, 100 + 169 * 6 + 3);
        isTable("169 places", x, 0, 16, 0, 3, 1);
        x.card(0, 4, 0, 100 + 1020 + 4);
        isTable("170 places", x, 0, 17, 0, 4, 1);
        x.card(0, 5, 0, 100 + 1074 + 5);
        isTable("179 places", x, 0, 17, 0, 9, 2);
        x.card(0, 6, 0, 100 + 1080 + 6);
        isTable("180 places", x, 0, 17, 0, 5, 1);
        x.wrong(0, 1);
        isTable("a wrong one is not heard", x, 0, 0, 0, -51, 5);
        check.due("20: sort 2", x.table(2, 0, 0, 0), NO);
        check.due("20: sort -1", x.table(-1, 0, 0, 0), NO);
        check.due("20: tens 18", x.table(0, 18, 0, 0), NO);
        check.due("20: tens -1", x.table(0, -1, 0, 0), NO);
        check.due("20: day 1", x.table(0, 0, 1, 0), NO);
        check.due("20: day -1", x.table(0, 0, -1, 0), NO);
        check.due("20: part 2", x.table(0, 0, 0, 2), NO);
        check.due("20: part -1", x.table(0, 0, 0, -1), NO);
    }

    private static void tablesOfBothSorts() {
        DrumWorld x = new DrumWorld();
        x.shell(100, 1, 2);
        x.shell(100, 1, 2);
        x.drum(0, 0, 0);
        x.shake(0, 0, 0);
        int[] due = {0, 0, 200, 200, 0, 400};
        for (int kind = 0; kind < 6; kind++) {
            x.card(kind, 0, 0, due[kind] + (1 << kind));
        }
        Check.text(x, "take 1;call 1;");
        x.force(1);
        isTable("TIME, BACK, DEEP", x, 0, 0, 0, 1 + 4 + 8, 3);
        isTable("SWAY, LATE, EDGE", x, 1, 0, 0, 2 + 16 + 32, 3);
        x.pace(0, 1, 0);
        isTable("EDGE alone isn't NEVER", x, 1, 0, 0, 400 + 32 - 200, 1);
        x.days(1);
        x.card(0, 0, 0, 3);
        x.mend(0, 5);
        isTable("as known then", x, 0, 0, 0, 13, 3);
        x.card(0, 0, 0, 6);
        isTable("as known now", x, 0, 0, 1, 5 + 4 + 8 + 3 + 6, 5);
        Check.text(x, "take kind = 2;call 1;");
        x.force(2);
        isTable("those that the rule takes", x, 0, 0, 1, 4, 1);
        Check.text(x, "take 0 - (kind = 3);call 0;");
        x.force(3);
        isTable("take below 0 isn't 0", x, 0, 0, 1, 8, 1);
    }

    private static void isRefit(String what, DrumWorld x, long got, long want, int... told) {
        check.due("21: " + what, got, want);
        for (int i = 0; i < 3; i++) {
            check.due("22: " + what + ", what " + i, x.refitTold(i), told[i]);
        }
    }

    private static void refits() {
        DrumWorld x = new DrumWorld();
        for (int i = 0; i < 3; i++) {
            check.due("22: at first", x.refitTold(i), 0);
        }
        x.shell(100, 50, 60);
        x.drum(10, 0, 0);
        x.drum(20, 0, 0);
        x.shake(0, 0, 0);
        isRefit("no card", x, x.refit(0, 5), 0, -1, -1, -1);
        x.card(0, 0, 0, 60 * 8);
        isRefit("PUSH 8", x, x.refit(0, 99999), 0, 0, 0, 8);
        check.due("21: nothing changes", x.pace(0, 0, 50), 50);
        isRefit("with a cap", x, x.refit(0, 1), 0, 0, 0, 8);
        x.card(1, 1, 0, 120 * 60);
        isRefit("another that is not late", x, x.refit(0, 99999), 0, 0, 0, 8);
        x.card(1, 1, 0, 120 * 98 - 3);
        x.wrong(1, 1);
        x.wrong(0, 1);
        isRefit("SWAY 98", x, x.refit(0, 99999), 3, 0, 1, 98);
        x.wrong(2, 1);
        isRefit("no card is heard", x, x.refit(0, 99999), 0, -1, -1, -1);
        x.days(1);
        x.card(0, 0, 0, 60 * 99 + 1);
        isRefit("not known then", x, x.refit(0, 99999), 0, -1, -1, -1);
        isRefit("PUSH 99", x, x.refit(1, 99999), 1, 0, 0, 99);
        x.card(1, 1, 0, 0);
        isRefit("SWAY 7 rather than PUSH 99", x, x.refit(1, 99999), 2941 + 120 * 7, 0, 1, 7);
    }

    private static void refitsAlike() {
        DrumWorld x = new DrumWorld();
        x.shell(100, 50, 50);
        x.shell(100, 50, 50);
        x.drum(0, 0, 0);
        x.drum(60, 0, 0);
        x.shake(0, 0, 0);
        x.card(2, 0, 0, 200);
        x.card(3, 0, 0, 200);
        isRefit("both by one slow", x, x.refit(0, 99999), 0, 0, 0, 1);
        DrumWorld y = new DrumWorld();
        y.shell(100, 1, 0);
        y.drum(0, 0, 0);
        y.shake(0, 0, 0);
        y.card(1, 0, 0, 0);
        isRefit("the lesser of like ones, and NEVER is the cap", y, y.refit(0, 7), 0, 0, 1, 7);
        y.card(0, 0, 0, 20);
        isRefit("the cap for each", y, y.refit(0, 7), 7, 0, 1, 7);
        isRefit("what is below the cap", y, y.refit(0, 50), 20, 0, 1, 7);
        y.pace(0, 1, 1);
        isRefit("not less", y, y.refit(0, 50), 20, -1, -1, -1);
        DrumWorld z = new DrumWorld();
        z.shell(100, 99, 0);
        z.shell(100, 99, 0);
        z.shell(100, 99, 0);
        z.drum(90, 0, 0);
        z.shake(0, 0, 0);
        z.card(2, 0, 0, 0);
        isRefit("of like ones the first shell", z, z.refit(0, 1), 1, -1, -1, -1);
        isRefit("the least", z, z.refit(0, 99999), 2 * 100 * (1 + 99) + 90, 1, 0, 1);
    }

    private static void refitsRefused() {
        DrumWorld x = plain();
        x.card(0, 0, 0, 60000);
        isRefit("PUSH 99", x, x.refit(0, 99999), 60000 - 59400, 0, 0, 99);
        check.due("21: cap 0", x.refit(0, 0), NO);
        check.due("21: cap 100000", x.refit(0, 100000), NO);
        check.due("21: day 1", x.refit(1, 5), NO);
        check.due("21: day -1", x.refit(-1, 5), NO);
        check.due("22: a refused one isn't asked", x.refitTold(2), 99);
        check.due("22: what 3", x.refitTold(3), -5);
        check.due("22: what -1", x.refitTold(-1), -5);
    }

    private static void called() {
        DrumWorld x = new DrumWorld();
        x.shell(100, 10, 20);
        x.shell(100, 8, 15);
        x.drum(10, 7, 0);
        x.shake(20, 50, 1000);
        // due: 550, 1150, 2100, 2200, (1150 + 600) / 2, 4200
        x.card(3, 0, 0, 1007 + 875);
        check.due("23: LATE", x.called(0, 0, 0), 16);
        check.due("23: 274", x.called(0, 274, 0), 16);
        check.due("23: 275", x.called(0, 275, 0), 2 + 16);
        check.due("23: 324", x.called(0, 324, 0), 2 + 16);
        check.due("23: 325", x.called(0, 325, 0), 1 + 2 + 16);
        check.due("23: 1225", x.called(0, 1225, 0), 1 + 2 + 4 + 16);
        check.due("23: 1325", x.called(0, 1325, 0), 1 + 2 + 4 + 8 + 16);
        check.due("23: all", x.called(0, 99999, 0), 63);
        x.days(1);
        x.mend(0, 1007 + 4200);
        check.due("23: as known then", x.called(0, 0, 0), 16);
        check.due("23: as known now", x.called(0, 0, 1), 32);
        x.pace(0, 1, 0);
        check.due("23: not what is never due", x.called(0, 99999, 1), 1 + 4 + 8 + 32);
        check.due("23: none", x.called(0, 0, 1), 0);
        check.due("23: no card", x.called(1, -1, 9), -5);
        check.due("23: card -1", x.called(-1, 0, 0), -5);
        check.due("23: off -1", x.called(0, -1, 0), -2);
        check.due("23: off 100000", x.called(0, 100000, 0), -2);
        check.due("23: day 2", x.called(0, 0, 2), -2);
        check.due("23: day -1", x.called(0, 0, -1), -2);
        x.wrong(0, 1);
        check.due("23: a wrong one, too", x.called(0, 99999, 1), 1 + 4 + 8 + 32);
    }

    private static void strange() {
        DrumWorld x = plain();
        x.card(0, 0, 0, 5);
        check.due("24: none", x.strange(0), 0);
        x.card(2, 0, 0, 5);
        x.card(5, 0, 1, 5);
        check.due("24: two", x.strange(0), 2);
        x.days(1);
        x.card(3, 0, 1, 5);
        check.due("24: as known then", x.strange(0), 2);
        check.due("24: as known now", x.strange(1), 3);
        x.wrong(1, 1);
        check.due("24: a wrong one is not heard", x.strange(1), 2);
        x.shell(100, 1, 1);
        check.due("24: none now", x.strange(1), 0);
        check.due("24: day 2", x.strange(2), -2);
        check.due("24: day -1", x.strange(-1), -2);
    }

    private static void isWatch(String what, DrumWorld x, long got, long want, int drums) {
        check.due("25: " + what, got, want);
        check.due("26: " + what, x.watched(), drums);
    }

    private static void watches() {
        DrumWorld x = new DrumWorld();
        check.due("26: at first", x.watched(), 0);
        Check.ints(x, 0, 10, 20, 30, 200, 359);
        isWatch("no drums", x, x.watch(0, 8, 180), 0, 0);
        x.drum(0, 0, 0);
        x.drum(20, 0, 0);
        x.drum(205, 0, 0);
        x.drum(25, 0, 0);
        isWatch("no drum", x, x.watch(0, 0, 180), 0, 0);
        isWatch("one drum", x, x.watch(0, 1, 10), 3, 2);
        isWatch("two drums: 0 and 1", x, x.watch(0, 2, 10), 4, 3);
        isWatch("three drums", x, x.watch(0, 3, 10), 5, 7);
        isWatch("more than are needed", x, x.watch(0, 8, 10), 5, 7);
        isWatch("none that near", x, x.watch(0, 8, 0), 1, 2);
        isWatch("all by one", x, x.watch(0, 8, 180), 5, 1);
        isWatch("across 0", x, x.watch(0, 1, 1), 1, 1);
        Check.ints(x, 1, 203, 203, 203, 20);
        isWatch("like numbers each", x, x.watch(1, 1, 2), 3, 4);
        check.due("25: an empty sheet", x.sheet(2, 2, 0), 1);
        isWatch("an empty sheet", x, x.watch(2, 8, 180), 0, 0);
        x.sheet(3, 0, 2);
        x.cell(3, 0, 100);
        x.cell(3, 1, 25);
        isWatch("bytes", x, x.watch(3, 1, 5), 1, 2);
        x.sheet(3, 1, 1);
        x.cell(3, 0, 205);
        isWatch("shorts", x, x.watch(3, 1, 0), 1, 4);
        DrumWorld y = new DrumWorld();
        for (int d = 0; d < 8; d++) {
            y.drum(45 * d, 0, 0);
        }
        Check.ints(y, 0, 315, 270, 225);
        isWatch("the last drums", y, y.watch(0, 2, 44), 2, 32 + 64);
        isWatch("all three", y, y.watch(0, 3, 44), 3, 32 + 64 + 128);
        isWatch("two of lesser bits than one", y, y.watch(0, 3, 45), 3, 1 + 32);
        isWatch("the one between", y, y.watch(0, 1, 45), 3, 64);
    }

    private static void watchesRefused() {
        DrumWorld x = new DrumWorld();
        x.drum(0, 0, 0);
        Check.ints(x, 0, 0, 359);
        isWatch("found", x, x.watch(0, 1, 1), 2, 1);
        check.due("25: sheet 4", x.watch(4, 9, 0), -5);
        check.due("25: sheet -1", x.watch(-1, 0, 0), -5);
        check.due("25: missing", x.watch(1, 9, 0), -11);
        check.due("25: most 9", x.watch(0, 9, 0), -2);
        check.due("25: most -1", x.watch(0, -1, 0), -2);
        check.due("25: far 181", x.watch(0, 1, 181), -2);
        check.due("25: far -1", x.watch(0, 1, -1), -2);
        x.cell(0, 1, 360);
        check.due("25: no place", x.watch(0, 1, 1), -2);
        x.cell(0, 1, -1);
        check.due("25: below 0", x.watch(0, 1, 1), -2);
        x.sheet(0, 0, 1);
        x.cell(0, 0, 200);
        check.due("25: a byte below 0", x.watch(0, 1, 1), -2);
        check.due("26: refused ones find nothing", x.watched(), 1);
    }

    private static void shakesTold() {
        DrumWorld x = plain();
        check.due("27: place", x.shakeTold(1, 0), 50);
        check.due("27: depth", x.shakeTold(1, 1), 10);
        check.due("27: hour", x.shakeTold(1, 2), 500);
        check.due("27: what 3", x.shakeTold(1, 3), -7);
        check.due("27: what -1", x.shakeTold(1, -1), -7);
        check.due("27: no shake", x.shakeTold(2, 9), -5);
        check.due("27: shake -1", x.shakeTold(-1, 0), -5);
    }

    private static void counts() {
        DrumWorld x = plain();
        x.drum(0, 0, 0);
        x.shell(1, 1, 1);
        x.shell(1, 1, 1);
        x.shell(1, 1, 1);
        for (int c = 0; c < 5; c++) {
            x.card(0, 0, 0, 0);
        }
        x.days(9);
        for (int t = 0; t < 4; t++) {
            Check.text(x, "take 1;call 1;");
        }
        x.force(3);
        Check.feed(x, "0123456");
        int[] want = {9, 4, 3, 2, 5, 5, 3, 7};
        for (int what = 0; what < want.length; what++) {
            check.due("28: what " + what, x.count(what), want[what]);
        }
        check.due("28: what -1", x.count(-1), -2);
        check.due("28: what 8", x.count(8), -2);
    }
}
