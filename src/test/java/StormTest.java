import java.util.Random;

/**
 * Wild calls of every sort, with numbers at and beyond all bounds, from a fixed row of chances: none
 * may throw, and two objects that are asked the same answer the same.
 */
public final class StormTest {
    private static final Check check = new Check("StormTest");
    private static final int[] EDGES = {Integer.MIN_VALUE, Integer.MIN_VALUE + 1, -1000, -100, -99, -2, -1, 0, 1,
        2, 3, 4, 5, 6, 7, 8, 9, 10, 17, 18, 39, 40, 41, 98, 99, 100, 179, 180, 181, 200, 201, 359, 360, 590, 999,
        1000, 99999, 100000, 9999999, 10000000, Integer.MAX_VALUE - 3, Integer.MAX_VALUE};
    private static final String[] PIECES = {"take ", "call ", "; ", "or ", "and ", "not ", "late ", "far ", "kind ",
        "noise ", "drift ", "depth ", "(", ")", "+", "-", "*", "<", "=", "1", "99999", "7 ", "?", "x", " "};

    public static void main(String[] args) {
        for (int seed = 0; seed < 300; seed++) {
            long first = storm(new Random(seed));
            check.due("seed " + seed + " again", storm(new Random(seed)), first);
        }
        check.close();
    }

    private static long storm(Random random) {
        DrumWorld x = new DrumWorld();
        long all = 0;
        boolean isFull = random.nextBoolean();
        if (isFull) {
            fill(x, random);
        }
        for (int n = isFull ? 80 : 0; n < 512; n++) {
            all = all * 31 + call(x, random, random.nextInt(36));
        }
        return all;
    }

    /** All that there may be, by some eighty calls. */
    private static void fill(DrumWorld x, Random random) {
        for (int n = 0; n < 8; n++) {
            x.shell(100, 1 + random.nextInt(99), random.nextInt(100));
            x.drum(random.nextInt(360), random.nextInt(99), random.nextInt(10));
            x.shake(random.nextInt(360), random.nextInt(100), random.nextInt(100000));
        }
        for (int n = 0; n < 40; n++) {
            x.card(random.nextInt(6), random.nextInt(8), random.nextInt(6), random.nextInt(200000));
        }
    }

    private static int any(Random random, int most) {
        int chance = random.nextInt(10);
        if (chance == 0) {
            return EDGES[random.nextInt(EDGES.length)];
        }
        return chance == 1 ? random.nextInt() : random.nextInt(most + 1);
    }

    private static long call(DrumWorld x, Random r, int which) {
        switch (which) {
            case 0: return x.shell(any(r, 200), any(r, 99), any(r, 99));
            case 1: return x.pace(any(r, 4), any(r, 1), any(r, 99));
            case 2: return x.due(any(r, 5), any(r, 180), any(r, 99));
            case 3: return x.shadow(any(r, 1), any(r, 1));
            case 4: return x.drum(any(r, 359), any(r, 99), any(r, 9));
            case 5: return x.clock(any(r, 7), any(r, 99));
            case 6: return x.shake(any(r, 359), any(r, 99), any(r, 9999999));
            case 7: return x.days(any(r, 20));
            case 8: case 9: case 10: return x.card(any(r, 5), any(r, 3), any(r, 2), any(r, 9999999));
            case 11: return x.mend(any(r, 20), any(r, 9999999));
            case 12: return x.wrong(any(r, 39), any(r, 1));
            case 13: return x.cardTold(any(r, 20), any(r, 6), any(r, 30));
            case 14: return x.feed(r.nextLong(), any(r, 8));
            case 15: case 16: case 17: return feedPieces(x, r);
            case 18: return x.text();
            case 19: return x.force(any(r, 5));
            default: return laterCall(x, r, which);
        }
    }

    private static long laterCall(DrumWorld x, Random r, int which) {
        switch (which) {
            case 20: return x.law(any(r, 20), any(r, 1), any(r, 30));
            case 21: return x.place(any(r, 3), any(r, 30), any(r, 3));
            case 22: return x.settle(any(r, 3), any(r, 30));
            case 23: return x.table(any(r, 1), any(r, 17), any(r, 30), any(r, 1));
            case 24: return x.refit(any(r, 30), any(r, 99999)) + x.refitTold(any(r, 2));
            case 25: return x.called(any(r, 20), any(r, 99999), any(r, 30));
            case 26: return x.strange(any(r, 30));
            case 27: return x.watch(any(r, 3), any(r, 8), any(r, 180)) + 100L * x.watched();
            case 28: return x.shakeTold(any(r, 5), any(r, 2));
            case 29: return x.count(any(r, 7));
            case 30: return r.nextBoolean() ? x.image() : x.back();
            case 31: return x.sheet(any(r, 3), any(r, 2), any(r, 40));
            case 32: return x.cell(any(r, 3), any(r, 39), any(r, 359));
            case 33: return x.copy(any(r, 3), any(r, 20), any(r, 3), any(r, 20), any(r, 20));
            case 34: return x.cards(any(r, 3), any(r, 2), any(r, 20), any(r, 10));
            default: return x.taken(any(r, 39), any(r, 5));
        }
    }

    private static long feedPieces(DrumWorld x, Random r) {
        if (r.nextInt(3) == 0) {
            return Check.text(x, "take late<" + r.nextInt(9999) + ";call " + PIECES[r.nextInt(PIECES.length)] + ";");
        }
        long answer = 0;
        for (int n = r.nextInt(4); n >= 0; n--) {
            answer = Check.feed(x, PIECES[r.nextInt(PIECES.length)]);
        }
        return answer;
    }
}
