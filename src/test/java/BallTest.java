/** Promises 1 to 5: a new object, and the ball. */
public final class BallTest {
    private static final Check check = new Check("BallTest");

    public static void main(String[] args) {
        aNewObject();
        shells();
        paces();
        dueOfFirstOnes();
        dueWhereShellsAreQuick();
        dueOfOtherKinds();
        dueRefused();
        shadows();
        check.close();
    }

    private static void aNewObject() {
        DrumWorld x = new DrumWorld();
        int[] counts = {0, 0, 0, 0, 0, 1, 0, 0};
        for (int what = 0; what < counts.length; what++) {
            check.due("1: count(" + what + ")", x.count(what), counts[what]);
        }
        check.due("1: pace", x.pace(0, 0, 1), -1);
        check.due("1: clock", x.clock(0, 1), -1000);
        check.due("1: shakeTold", x.shakeTold(0, 0), -5);
        check.due("1: cardTold", x.cardTold(0, 0, 0), -1000000000);
        check.due("1: days", x.days(1), 1);
    }

    private static void shells() {
        DrumWorld x = new DrumWorld();
        check.due("2: thin", x.shell(0, 10, 10), -2);
        check.due("2: below 0", x.shell(-1, 10, 10), -2);
        check.due("2: thick", x.shell(201, 10, 10), -2);
        check.due("2: push 0", x.shell(1, 0, 10), -2);
        check.due("2: push 100", x.shell(1, 100, 10), -2);
        check.due("2: sway -1", x.shell(1, 10, -1), -2);
        check.due("2: sway 100", x.shell(1, 10, 100), -2);
        check.due("2: none came", x.count(1), 0);
        check.due("2: the thickest", x.shell(200, 1, 0), 0);
        check.due("2: the slowest", x.shell(200, 99, 99), 1);
        check.due("2: 591", x.shell(191, 1, 1), -3);
        check.due("2: 591 and BAD", x.shell(191, 0, 1), -2);
        check.due("2: the largest number", x.shell(Integer.MAX_VALUE, 1, 1), -2);
        check.due("2: up to 590", x.shell(190, 1, 1), 2);
        check.due("2: beyond 590", x.shell(1, 1, 1), -3);
        check.due("2: three", x.count(1), 3);
        DrumWorld y = new DrumWorld();
        for (int k = 0; k < 5; k++) {
            check.due("2: shell " + k, y.shell(100, 5, 5), k);
        }
        check.due("2: STATE ahead of FULL", y.shell(91, 5, 5), -3);
        check.due("2: FULL", y.shell(90, 5, 5), -4);
        check.due("2: five", y.count(1), 5);
    }

    private static void paces() {
        DrumWorld x = new DrumWorld();
        x.shell(10, 20, 30);
        x.shell(10, 21, 0);
        check.due("3: push", x.pace(0, 0, 99), 20);
        check.due("3: push again", x.pace(0, 0, 1), 99);
        check.due("3: sway", x.pace(0, 1, 0), 30);
        check.due("3: sway again", x.pace(0, 1, 99), 0);
        check.due("3: the other shell", x.pace(1, 1, 7), 0);
        check.due("3: the other shell's push", x.pace(1, 0, 7), 21);
        check.due("3: no shell", x.pace(2, 0, 7), -1);
        check.due("3: shell -1", x.pace(-1, 0, 7), -1);
        check.due("3: no shell and BAD", x.pace(2, 5, 700), -1);
        check.due("3: sort 2", x.pace(0, 2, 7), -2);
        check.due("3: sort -1", x.pace(0, -1, 7), -2);
        check.due("3: push 0", x.pace(0, 0, 0), -2);
        check.due("3: push 100", x.pace(0, 0, 100), -2);
        check.due("3: sway -1", x.pace(0, 1, -1), -2);
        check.due("3: sway 100", x.pace(0, 1, 100), -2);
        check.due("3: as it was", x.pace(0, 0, 5), 1);
        check.due("3: as it was", x.pace(0, 1, 5), 99);
    }

    private static DrumWorld threeShells() {
        DrumWorld x = new DrumWorld();
        x.shell(100, 10, 20);
        x.shell(100, 8, 15);
        x.shell(100, 5, 9);
        return x;
    }

    private static void dueOfFirstOnes() {
        DrumWorld x = threeShells();
        int[] fars = {0, 1, 40, 41, 75, 76, 90, 180};
        int[] push = {0, 60, 2400, 3640, 5000, 5120, 5400, 7200};
        int[] sway = {0, 120, 4800, 7075, 9625, 9736, 10240, 13480};
        for (int i = 0; i < fars.length; i++) {
            check.due("4: TIME at " + fars[i], x.due(0, fars[i], 0), push[i]);
            check.due("4: SWAY at " + fars[i], x.due(1, fars[i], 0), sway[i]);
        }
        check.due("4: DOWN", x.due(0, 40, 99), 2301);
        check.due("4: DOWN is by PUSH", x.due(1, 40, 99), 4701);
        check.due("4: 0 at least", x.due(0, 1, 99), 0);
        x.pace(0, 0, 3);
        check.due("4: DOWN is cut", x.due(0, 20, 19), 360 - 5);
        check.due("4: a girth by 100 is cut", oneShell(7).due(0, 9, 0), 378);
        DrumWorld cut = new DrumWorld();
        cut.shell(1, 99, 0);
        cut.shell(1, 1, 0);
        check.due("4: a girth by 100 is cut", cut.due(0, 16, 0), 198 + 95);
    }

    private static DrumWorld oneShell(int push) {
        DrumWorld x = new DrumWorld();
        x.shell(50, push, 0);
        return x;
    }

    /** Each shell is so much quicker than the one above it that its stretch is seen. */
    private static void dueWhereShellsAreQuick() {
        DrumWorld x = new DrumWorld();
        int[] slow = {99, 60, 30, 10, 1};
        for (int v : slow) {
            x.shell(1, v, v);
        }
        check.due("4: k 0 alone", x.due(0, 14, 0), 14 * 600 * 99 / 100);
        check.due("4: k 1 from 15", x.due(0, 15, 0), 198 + 15 * 599 * 60 / 100);
        check.due("4: k 1 at 39", x.due(0, 39, 0), 198 + 39 * 599 * 60 / 100);
        check.due("4: k 2 from 40", x.due(0, 40, 0), 318 + 40 * 598 * 30 / 100);
        check.due("4: k 2 at 64", x.due(0, 64, 0), 318 + 64 * 598 * 30 / 100);
        check.due("4: k 3 from 65", x.due(0, 65, 0), 378 + 65 * 597 * 10 / 100);
        check.due("4: k 3 at 89", x.due(0, 89, 0), 378 + 89 * 597 * 10 / 100);
        check.due("4: k 4 from 90", x.due(0, 90, 0), 398 + 90 * 596 / 100);
        check.due("4: k 4 up to 180", x.due(1, 180, 0), 398 + 180 * 596 / 100);
        x.pace(4, 1, 0);
        check.due("4: k 3 up to 145", x.due(1, 145, 0), 378 + 145 * 597 * 10 / 100);
        check.due("4: none at 146", x.due(1, 146, 0), -1);
        x.pace(3, 1, 0);
        check.due("4: k 2 up to 110", x.due(1, 110, 0), 318 + 110 * 598 * 30 / 100);
        check.due("4: none at 111", x.due(1, 111, 0), -1);
        x.pace(2, 1, 0);
        x.pace(3, 1, 10);
        check.due("4: none behind one that stops", x.due(1, 76, 0), -1);
        check.due("4: k 1 up to 75", x.due(1, 75, 0), 198 + 75 * 599 * 60 / 100);
        x.pace(0, 1, 0);
        check.due("4: none at all", x.due(1, 0, 0), -1);
    }

    private static void dueOfOtherKinds() {
        DrumWorld x = threeShells();
        check.due("4: BACK", x.due(2, 90, 50), 3600 + 90 * 8);
        check.due("4: BACK at 91", x.due(2, 91, 50), -1);
        check.due("4: DEEP", x.due(3, 90, 55), 3600 + 90 * 8 + 2 * 55);
        check.due("4: DEEP at 91", x.due(3, 91, 55), -1);
        check.due("4: LATE", x.due(4, 40, 99), (4701 + 2400) / 2);
        check.due("4: EDGE", x.due(5, 90, 70), 7000 + 90 * 15);
        check.due("4: EDGE at 91", x.due(5, 91, 70), -1);
        x.pace(2, 1, 0);
        check.due("4: EDGE needs what is above alone", x.due(5, 10, 0), 7000 + 150);
        x.pace(1, 1, 0);
        check.due("4: EDGE by PUSH at shell 1", x.due(5, 10, 70), 2000 + 100);
        check.due("4: that, up to 90", x.due(5, 90, 0), 2000 + 900);
        check.due("4: LATE without SWAY", x.due(4, 41, 0), -1);
        DrumWorld one = oneShell(7);
        check.due("4: BACK with one shell", one.due(2, 0, 0), -1);
        check.due("4: DEEP with one shell", one.due(3, 0, 0), -1);
        check.due("4: EDGE with one shell", one.due(5, 0, 0), -1);
        check.due("4: one shell, up to 180", one.due(0, 180, 0), 180 * 600 * 7 / 100);
        one.shell(10, 3, 5);
        check.due("4: BACK with two", one.due(2, 2, 0), 2 * 350 + 14);
        check.due("4: EDGE with two, no SWAY", one.due(5, 2, 0), 2 * 350 + 14);
        DrumWorld none = new DrumWorld();
        for (int kind = 0; kind < 6; kind++) {
            check.due("4: no shells", none.due(kind, 0, 0), -1);
        }
    }

    private static void dueRefused() {
        DrumWorld x = threeShells();
        check.due("4: kind -1", x.due(-1, 500, 500), -5);
        check.due("4: kind 6", x.due(6, 0, 0), -5);
        check.due("4: far -1", x.due(0, -1, 0), -2);
        check.due("4: far 181", x.due(0, 181, 0), -2);
        check.due("4: depth -1", x.due(0, 0, -1), -2);
        check.due("4: depth 100", x.due(0, 0, 100), -2);
    }

    private static void shadows() {
        DrumWorld x = threeShells();
        check.due("5: none", x.shadow(0, 0), -1);
        check.due("5: none", x.shadow(0, 1), -1);
        check.due("5: none", x.shadow(1, 0), -1);
        x.pace(2, 1, 0);
        check.due("5: from 76", x.shadow(1, 0), 76);
        check.due("5: up to 180", x.shadow(1, 1), 180);
        x.pace(1, 1, 0);
        check.due("5: from 41", x.shadow(1, 0), 41);
        x.pace(0, 1, 0);
        check.due("5: from 0", x.shadow(1, 0), 0);
        check.due("5: up to 180", x.shadow(1, 1), 180);
        check.due("5: PUSH none", x.shadow(0, 0), -1);
        check.due("5: sort 2", x.shadow(2, 0), -5);
        check.due("5: sort -1", x.shadow(-1, 0), -5);
        check.due("5: what 2", x.shadow(1, 2), -5);
        check.due("5: what -1", x.shadow(1, -1), -5);
        check.due("5: no shells", new DrumWorld().shadow(0, 0), 0);
        check.due("5: no shells", new DrumWorld().shadow(1, 1), 180);
    }
}
