/** Promises 31 to 35: the host's sheets, cards by a sheet, cards taken for a kind. */
public final class HostTest {
    private static final Check check = new Check("HostTest");

    public static void main(String[] args) {
        sheets();
        cells();
        cellsAreCut();
        copies();
        copiesRefused();
        cards();
        cardsLeftOut();
        cardsRefused();
        taken();
        check.close();
    }

    private static void sheets() {
        DrumWorld x = new DrumWorld();
        check.due("31: sheet 4", x.sheet(4, 0, 1), -2);
        check.due("31: sheet -1", x.sheet(-1, 0, 1), -2);
        check.due("31: sort 3", x.sheet(0, 3, 1), -2);
        check.due("31: sort -2", x.sheet(0, -2, 1), -2);
        check.due("31: n 41", x.sheet(0, 0, 41), -2);
        check.due("31: n -1", x.sheet(0, 0, -1), -14);
        check.due("31: n the least int", x.sheet(0, 0, Integer.MIN_VALUE), -14);
        check.due("31: BAD ahead of -14", x.sheet(0, 3, -1), -2);
        check.due("31: still missing", x.cell(0, 0, 1), -11);
        check.due("31: n 0", x.sheet(0, 0, 0), 1);
        check.due("31: nothing in it", x.cell(0, 0, 1), -12);
        for (int s = 0; s < 4; s++) {
            check.due("31: n 40", x.sheet(s, s % 3, 40), 1);
            check.due("31: the last one", x.cell(s, 39, 1), 1);
            check.due("31: and no more", x.cell(s, 40, 1), -12);
        }
        check.due("31: refused", x.sheet(0, 1, 41), -2);
        check.due("31: it stays", x.cell(0, 39, 1), 1);
        check.due("31: missing", x.sheet(0, -1, -7), 1);
        check.due("31: missing now", x.cell(0, 39, 1), -11);
        check.due("31: missing, any n", x.sheet(1, -1, 4000), 1);
        check.due("31: missing now", x.cell(1, 0, 1), -11);
        check.due("31: the others stay", x.cell(2, 0, 1), 1);
        check.due("31: missing and BAD", x.sheet(4, -1, 0), -2);
    }

    /** What stands in a sheet is seen by the places that a drum there is near to. */
    private static int holds(DrumWorld x, int sheet, int place) {
        x.drum(place, 0, 0);
        return x.watch(sheet, 8, 0);
    }

    private static void cells() {
        DrumWorld x = new DrumWorld();
        check.due("32: sheet 4", x.cell(4, 0, 0), -2);
        check.due("32: sheet -1", x.cell(-1, 0, 0), -2);
        check.due("32: missing", x.cell(0, -1, 0), -11);
        x.sheet(0, 2, 3);
        check.due("32: place -1", x.cell(0, -1, 0), -12);
        check.due("32: place 3", x.cell(0, 3, 0), -12);
        check.due("32: the largest place", x.cell(0, Integer.MAX_VALUE, 0), -12);
        check.due("32: it becomes", x.cell(0, 2, 300), 1);
        check.due("32: 300", holds(x, 0, 300), 1);
        check.due("32: and two 0", holds(x, 0, 0), 3);
        x.cell(0, 0, 200);
        x.cell(0, 1, 200);
        x.sheet(0, 2, 3);
        check.due("32: all 0 anew", x.watch(0, 8, 0), 3);
        check.due("32: by one drum", x.watched(), 2);
    }

    private static void cellsAreCut() {
        int[] sorts = {0, 0, 0, 0, 1, 1, 1, 1, 2, 2};
        int[] values = {256 + 7, -249, 127, 128, 65536 + 300, -65236, 256, 32768, 300, 65536 + 300};
        int[] places = {7, 7, 127, -1, 300, 300, 256, -1, 300, -1};
        for (int i = 0; i < sorts.length; i++) {
            DrumWorld x = new DrumWorld();
            x.sheet(1, sorts[i], 1);
            check.due("32: value " + values[i], x.cell(1, 0, values[i]), 1);
            int want = places[i] < 0 ? -2 : 1;
            check.due("32: " + values[i] + " in sort " + sorts[i], holds(x, 1, Math.max(0, places[i])), want);
        }
    }

    private static void copies() {
        DrumWorld x = new DrumWorld();
        for (int d = 0; d < 4; d++) {
            x.drum(d + 1, 0, 0);
        }
        Check.ints(x, 0, 1, 2, 3, 4);
        Check.ints(x, 1, 9, 9, 9);
        check.due("33: two", x.copy(0, 1, 1, 0, 2), 2);
        check.due("33: 2 and 3 came", x.watch(1, 8, 0), 2);
        check.due("33: these", x.watched(), 2 + 4);
        check.due("33: all of it", x.copy(1, 0, 0, 1, 3), 3);
        check.due("33: now 1 2 3 9", x.watch(0, 8, 0), 3);
        check.due("33: none", x.copy(0, 4, 1, 3, 0), 0);
        Check.ints(x, 0, 1, 2, 3, 4);
        check.due("33: within itself, on", x.copy(0, 0, 0, 1, 3), 3);
        isRow(x, 1, 1, 2, 3);
        check.due("33: within itself, back", x.copy(0, 2, 0, 0, 2), 2);
        isRow(x, 2, 3, 2, 3);
        Check.ints(x, 0, 1, 2, 3, 4);
        check.due("33: within itself, back by one", x.copy(0, 1, 0, 0, 3), 3);
        isRow(x, 2, 3, 4, 4);
        x.sheet(2, 0, 2);
        x.sheet(3, 0, 1);
        check.due("33: of bytes", x.copy(3, 0, 2, 1, 1), 1);
        x.sheet(2, 1, 2);
        x.sheet(3, 1, 1);
        check.due("33: of shorts", x.copy(3, 0, 2, 1, 1), 1);
    }

    private static void isRow(DrumWorld x, int... want) {
        for (int i = 0; i < want.length; i++) {
            x.sheet(1, 2, 1);
            x.copy(0, i, 1, 0, 1);
            check.due("33: number " + i, x.watch(1, 1, 0) == 1 ? x.watched() : 0, 1 << want[i] - 1);
        }
    }

    private static void copiesRefused() {
        DrumWorld x = new DrumWorld();
        check.due("33: sheet 4", x.copy(4, 0, 0, 0, 0), -2);
        check.due("33: sheet -1", x.copy(-1, 0, 0, 0, 0), -2);
        check.due("33: to sheet 4", x.copy(0, 0, 4, 0, 0), -2);
        check.due("33: to sheet -1", x.copy(0, 0, -1, 0, 0), -2);
        check.due("33: both missing", x.copy(0, 0, 1, 0, 0), -11);
        x.sheet(0, 2, 4);
        check.due("33: one missing", x.copy(0, 9, 1, 9, 9), -11);
        check.due("33: the other missing", x.copy(1, 9, 0, 9, 9), -11);
        x.sheet(1, 1, 4);
        check.due("33: unlike sorts", x.copy(0, 9, 1, 9, 9), -13);
        x.sheet(1, 2, 3);
        int[][] outside = {{-1, 0, 1}, {0, -1, 1}, {0, 0, -1}, {4, 0, 1}, {0, 3, 1}, {0, 0, 4}, {2, 0, 3},
            {0, 1, 3}, {5, 0, 0}, {0, 4, 0}, {1, 1, Integer.MAX_VALUE}, {Integer.MAX_VALUE, 0, 1},
            {0, Integer.MAX_VALUE, 1}, {1, 1, Integer.MIN_VALUE}, {Integer.MIN_VALUE, 0, 0}};
        for (int[] o : outside) {
            check.due("33: " + o[0] + ", " + o[1] + ", " + o[2], x.copy(0, o[0], 1, o[1], o[2]), -12);
        }
    }

    private static DrumWorld world() {
        DrumWorld x = new DrumWorld();
        x.drum(0, 0, 0);
        x.drum(0, 0, 0);
        x.shake(0, 0, 0);
        x.shake(0, 0, 0);
        return x;
    }

    private static void isCard(DrumWorld x, int c, int... want) {
        for (int what = 0; what < 4; what++) {
            check.due("34: card " + c + ", what " + what, x.cardTold(c, what, x.count(0)), want[what]);
        }
    }

    private static void cards() {
        DrumWorld x = world();
        x.days(2);
        Check.ints(x, 0, 9, 5, 1, 0, 70, 4, 0, 1, 9999999, 8);
        check.due("34: two", x.cards(0, 2, 1, 2), 2);
        isCard(x, 0, 5, 1, 0, 70);
        isCard(x, 1, 4, 0, 1, 9999999);
        check.due("34: told on the day", x.cardTold(1, 5, 2), 2);
        check.due("34: none", x.cards(0, 2, 1, 0), 0);
        check.due("34: none from outside", x.cards(0, 2, 99, 0), 0);
        check.due("34: two came", x.count(4), 2);
        x.sheet(1, 0, 4);
        x.cell(1, 3, 100);
        check.due("34: of bytes", x.cards(1, 0, 0, 1), 1);
        isCard(x, 2, 0, 0, 0, 100);
        x.sheet(1, 1, 4);
        x.cell(1, 3, 30000);
        check.due("34: of shorts", x.cards(1, 1, 0, 1), 1);
        isCard(x, 3, 0, 0, 0, 30000);
        x.sheet(1, 2, 40);
        check.due("34: ten", x.cards(1, 2, 0, 10), 10);
        check.due("34: ten", x.cards(1, 2, 0, 10), 10);
        check.due("34: ten", x.cards(1, 2, 0, 10), 10);
        check.due("34: six, then full", x.cards(1, 2, 0, 10), 6);
        check.due("34: forty", x.count(4), 40);
        check.due("34: full", x.cards(1, 2, 0, 10), 0);
    }

    private static void cardsLeftOut() {
        DrumWorld x = world();
        Check.ints(x, 0, 6, 0, 0, 1, 0, 2, 0, 2, 0, 0, 2, 3, 0, 0, 0, -4, 1, 1, 1, 5, 0, 0);
        check.due("34: one of five", x.cards(0, 2, 0, 5), 1);
        isCard(x, 0, 1, 1, 1, 5);
        check.due("34: then outside", x.cards(0, 2, 12, 3), -12);
        check.due("34: what stood ahead came", x.count(4), 2);
        isCard(x, 1, 1, 1, 1, 5);
    }

    private static void cardsRefused() {
        DrumWorld x = world();
        Check.ints(x, 0, 0, 0, 0, 0, 0, 0, 0);
        check.due("34: sheet 4", x.cards(4, 2, 0, 1), -2);
        check.due("34: sheet -1", x.cards(-1, 2, 0, 1), -2);
        check.due("34: sort 3", x.cards(0, 3, 0, 1), -2);
        check.due("34: sort -1", x.cards(1, -1, 0, 1), -2);
        check.due("34: n 11", x.cards(0, 2, 0, 11), -2);
        check.due("34: n -1", x.cards(0, 2, 0, -1), -2);
        check.due("34: BAD ahead", x.cards(1, 2, 0, 11), -2);
        check.due("34: missing", x.cards(1, 2, 0, 1), -11);
        check.due("34: of another sort", x.cards(0, 1, 99, 1), -13);
        check.due("34: of another sort", x.cards(0, 0, 0, 1), -13);
        check.due("34: from -1", x.cards(0, 2, -1, 1), -12);
        check.due("34: from 4", x.cards(0, 2, 4, 1), -12);
        check.due("34: from 7", x.cards(0, 2, 7, 1), -12);
        check.due("34: from the largest", x.cards(0, 2, Integer.MAX_VALUE, 2), -12);
        check.due("34: from the least", x.cards(0, 2, Integer.MIN_VALUE, 2), -12);
        check.due("34: from -4", x.cards(0, 2, -4, 2), -12);
        check.due("34: none came", x.count(4), 0);
        check.due("34: from 3", x.cards(0, 2, 3, 1), 1);
        check.due("34: from 3, two", x.cards(0, 2, 3, 2), -12);
        check.due("34: two came", x.count(4), 2);
    }

    private static void taken() {
        DrumWorld x = world();
        for (int kind = 0; kind < 6; kind++) {
            x.card(kind, 0, 0, 0);
        }
        int[] isAlso = {1, 1 + 2, 1 + 4, 1 + 4 + 8, 1 + 2 + 16, 1 + 4 + 32};
        for (int c = 0; c < 6; c++) {
            for (int kind = 0; kind < 6; kind++) {
                int want = (isAlso[c] >> kind & 1) == 1 ? c : -13;
                check.due("35: kind " + c + " for " + kind, x.taken(c, kind), want);
            }
        }
        check.due("35: kind 6", x.taken(99, 6), -2);
        check.due("35: kind -1", x.taken(0, -1), -2);
        check.due("35: card 40", x.taken(40, 0), -12);
        check.due("35: card -1", x.taken(-1, 0), -12);
        check.due("35: none yet", x.taken(39, 5), -11);
        check.due("35: none yet", x.taken(6, 0), -11);
    }
}
