/** Promises 6 to 13: drums, shakes, days, cards. */
public final class CardsTest {
    private static final Check check = new Check("CardsTest");

    public static void main(String[] args) {
        drums();
        clocks();
        shakes();
        days();
        cards();
        mended();
        wrongOnes();
        told();
        late();
        check.close();
    }

    private static DrumWorld world() {
        DrumWorld x = new DrumWorld();
        x.shell(100, 10, 20);
        x.shell(100, 8, 0);
        x.drum(10, 5, 2);
        x.drum(350, -7, 9);
        x.shake(30, 50, 1000);
        x.shake(200, 0, 0);
        return x;
    }

    private static void drums() {
        DrumWorld x = new DrumWorld();
        check.due("6: place -1", x.drum(-1, 0, 0), -2);
        check.due("6: place 360", x.drum(360, 0, 0), -2);
        check.due("6: drift -100", x.drum(0, -100, 0), -2);
        check.due("6: drift 100", x.drum(0, 100, 0), -2);
        check.due("6: noise -1", x.drum(0, 0, -1), -2);
        check.due("6: noise 10", x.drum(0, 0, 10), -2);
        check.due("6: the least", x.drum(0, -99, 0), 0);
        check.due("6: the most", x.drum(359, 99, 9), 1);
        for (int d = 2; d < 8; d++) {
            check.due("6: drum " + d, x.drum(0, 0, 0), d);
        }
        check.due("6: BAD ahead of FULL", x.drum(360, 0, 0), -2);
        check.due("6: FULL", x.drum(0, 0, 0), -4);
        check.due("6: eight", x.count(2), 8);
        check.due("7: no drum 8", x.clock(8, 0), -1000);
        check.due("7: no drum 9", x.clock(9, 0), -1000);
        check.due("6: drift of 0", x.clock(0, 0), -99);
        check.due("6: drift of 1", x.clock(1, 0), 99);
    }

    private static void clocks() {
        DrumWorld x = world();
        check.due("7: was", x.clock(0, 99), 5);
        check.due("7: was", x.clock(0, -99), 99);
        check.due("7: was", x.clock(1, 0), -7);
        check.due("7: no drum", x.clock(2, 0), -1000);
        check.due("7: drum -1", x.clock(-1, 0), -1000);
        check.due("7: no drum ahead", x.clock(2, 500), -1000);
        check.due("7: 100", x.clock(0, 100), -2000);
        check.due("7: -100", x.clock(0, -100), -2000);
        check.due("7: as it was", x.clock(0, 1), -99);
    }

    private static void shakes() {
        DrumWorld x = new DrumWorld();
        check.due("8: place -1", x.shake(-1, 0, 0), -2);
        check.due("8: place 360", x.shake(360, 0, 0), -2);
        check.due("8: depth -1", x.shake(0, -1, 0), -2);
        check.due("8: depth 100", x.shake(0, 100, 0), -2);
        check.due("8: hour -1", x.shake(0, 0, -1), -2);
        check.due("8: hour 10000000", x.shake(0, 0, 10000000), -2);
        check.due("8: the least", x.shake(0, 0, 0), 0);
        check.due("8: the most", x.shake(359, 99, 9999999), 1);
        for (int s = 2; s < 6; s++) {
            check.due("8: shake " + s, x.shake(1, 2, 3), s);
        }
        check.due("8: BAD ahead of FULL", x.shake(0, 0, -1), -2);
        check.due("8: FULL", x.shake(0, 0, 0), -4);
        check.due("8: six", x.count(3), 6);
        check.due("27: no shake 6", x.shakeTold(6, 0), -5);
        check.due("27: no shake 7", x.shakeTold(7, 0), -5);
        check.due("8: place", x.shakeTold(1, 0), 359);
        check.due("8: depth", x.shakeTold(1, 1), 99);
        check.due("8: hour", x.shakeTold(1, 2), 9999999);
    }

    private static void days() {
        DrumWorld x = new DrumWorld();
        check.due("9: 0", x.days(0), -2);
        check.due("9: -1", x.days(-1), -2);
        check.due("9: 101", x.days(101), -2);
        check.due("9: 1", x.days(1), 1);
        for (int n = 1; n <= 9; n++) {
            check.due("9: 100", x.days(100), 1 + 100 * n);
        }
        check.due("9: beyond 999", x.days(99), -4);
        check.due("9: to 999", x.days(98), 999);
        check.due("9: beyond 999", x.days(1), -4);
        check.due("9: BAD ahead of FULL", x.days(0), -2);
        check.due("9: 999", x.count(0), 999);
    }

    private static void cards() {
        DrumWorld x = world();
        check.due("10: no drum", x.card(0, 2, 0, 0), -1);
        check.due("10: drum -1", x.card(0, -1, 0, 0), -1);
        check.due("10: no shake", x.card(0, 0, 2, 0), -1);
        check.due("10: shake -1", x.card(0, 0, -1, 0), -1);
        check.due("10: NONE ahead of BAD", x.card(9, 0, 2, -1), -1);
        check.due("10: kind -1", x.card(-1, 0, 0, 0), -2);
        check.due("10: kind 6", x.card(6, 0, 0, 0), -2);
        check.due("10: time -1", x.card(0, 0, 0, -1), -2);
        check.due("10: time 10000000", x.card(0, 0, 0, 10000000), -2);
        check.due("10: none came", x.count(4), 0);
        check.due("10: the least", x.card(0, 0, 0, 0), 0);
        check.due("10: the most", x.card(5, 1, 1, 9999999), 1);
        for (int c = 2; c < 40; c++) {
            check.due("10: card " + c, x.card(1, 0, 0, 7), c);
        }
        check.due("10: BAD ahead of FULL", x.card(6, 0, 0, 0), -2);
        check.due("10: NONE ahead of FULL", x.card(0, 2, 0, 0), -1);
        check.due("10: FULL", x.card(0, 0, 0, 0), -4);
        check.due("10: forty", x.count(4), 40);
        check.due("11: no card 40", x.mend(40, 1), -1);
        check.due("12: no card 41", x.wrong(41, 1), -1);
        check.due("13: no card 42", x.cardTold(42, 1, 0), -1000000000);
    }

    private static void mended() {
        DrumWorld x = world();
        x.card(0, 0, 0, 100);
        x.days(5);
        check.due("11: no card", x.mend(1, 0), -1);
        check.due("11: card -1", x.mend(-1, 0), -1);
        check.due("11: NONE ahead of BAD", x.mend(1, -1), -1);
        check.due("11: time -1", x.mend(0, -1), -2);
        check.due("11: time 10000000", x.mend(0, 10000000), -2);
        check.due("11: as told", x.mend(0, 0), 100);
        check.due("11: it was", x.mend(0, 7), -3);
        check.due("11: BAD ahead of STATE", x.mend(0, -1), -2);
        check.due("11: not known on day 4", x.cardTold(0, 3, 4), 100);
        check.due("11: known on day 5", x.cardTold(0, 3, 5), 0);
        x.days(1);
        check.due("11: known from then on", x.cardTold(0, 3, 6), 0);
        check.due("11: the day it was told", x.cardTold(0, 5, 6), 0);
        x.card(0, 0, 0, 5);
        check.due("11: the most", x.mend(1, 9999999), 5);
        check.due("11: at once", x.cardTold(1, 3, 6), 9999999);
        check.due("11: not known before", x.cardTold(1, 3, 5), 5);
    }

    private static void wrongOnes() {
        DrumWorld x = world();
        x.card(0, 0, 0, 100);
        check.due("12: no card", x.wrong(1, 1), -1);
        check.due("12: card -1", x.wrong(-1, 1), -1);
        check.due("12: NONE ahead of BAD", x.wrong(1, 2), -1);
        check.due("12: 2", x.wrong(0, 2), -2);
        check.due("12: -1", x.wrong(0, -1), -2);
        check.due("12: not at first", x.wrong(0, 1), 0);
        check.due("12: it was", x.wrong(0, 1), 1);
        check.due("12: told", x.cardTold(0, 6, 0), 1);
        check.due("12: it was", x.wrong(0, 0), 1);
        check.due("12: no more", x.wrong(0, 0), 0);
        check.due("12: told", x.cardTold(0, 6, 0), 0);
    }

    private static void told() {
        DrumWorld x = world();
        x.days(3);
        x.card(4, 1, 0, 4321);
        int[] want = {4, 1, 0, 4321, 4321 + 7 - 1000 - (4800 - 50 + 2400) / 2, 3, 0};
        for (int what = 0; what < want.length; what++) {
            check.due("13: what " + what, x.cardTold(0, what, 3), want[what]);
            check.due("13: ahead of its day, what " + what, x.cardTold(0, what, 0), want[what]);
        }
        check.due("13: what -1", x.cardTold(0, -1, 0), -1000000002);
        check.due("13: what 7", x.cardTold(0, 7, 0), -1000000002);
        check.due("13: day -1", x.cardTold(0, 0, -1), -1000000001);
        check.due("13: day 4", x.cardTold(0, 0, 4), -1000000001);
        check.due("13: day ahead of what", x.cardTold(0, 9, 4), -1000000001);
        check.due("13: no card", x.cardTold(1, 9, 4), -1000000000);
        check.due("13: card -1", x.cardTold(-1, 0, 0), -1000000000);
    }

    private static void late() {
        DrumWorld x = world();
        x.card(0, 0, 0, 5000);
        x.card(1, 0, 1, 5000);
        x.card(2, 1, 1, 5000);
        check.due("13: late", x.cardTold(0, 4, 0), 5000 - 5 - 1000 - (20 * 60 - 50));
        check.due("13: NEVER", x.cardTold(1, 4, 0), 1000000000);
        check.due("13: NEVER", x.cardTold(2, 4, 0), 1000000000);
        x.clock(0, -1);
        check.due("13: by the drift of now", x.cardTold(0, 4, 0), 5000 + 1 - 1000 - (20 * 60 - 50));
        x.pace(0, 0, 20);
        check.due("13: by the paces of now", x.cardTold(0, 4, 0), 5000 + 1 - 1000 - (20 * 120 - 100));
        x.mend(0, 0);
        check.due("13: early", x.cardTold(0, 4, 0), 1 - 1000 - 2300);
        x.card(0, 1, 0, 4000);
        check.due("13: the lesser way around", x.cardTold(3, 4, 0), 4000 + 7 - 1000 - (40 * 120 - 100));
    }
}
