/** Promises 29 and 30: images. */
public final class ImageTest {
    private static final Check check = new Check("ImageTest");

    public static void main(String[] args) {
        kept();
        whatCameSinceStays();
        whatIsNotKept();
        again();
        check.close();
    }

    private static DrumWorld world() {
        DrumWorld x = new DrumWorld();
        x.shell(100, 10, 20);
        x.shell(100, 8, 15);
        x.drum(0, 5, 1);
        x.drum(90, -5, 1);
        x.shake(10, 20, 3000);
        x.shake(20, 30, 4000);
        x.card(0, 0, 0, 5000);
        x.card(0, 1, 0, 5000);
        x.card(0, 1, 1, 5000);
        x.wrong(1, 1);
        return x;
    }

    private static void kept() {
        DrumWorld x = world();
        check.due("30: there is none", x.back(), -3);
        x.days(7);
        check.due("29: the day", x.image(), 7);
        x.pace(0, 0, 1);
        x.pace(1, 0, 2);
        x.pace(0, 1, 3);
        x.pace(1, 1, 4);
        x.clock(0, 9);
        x.clock(1, 10);
        x.settle(0, 7);
        x.settle(1, 7);
        x.wrong(0, 1);
        x.wrong(1, 0);
        x.wrong(2, 1);
        x.days(3);
        check.due("30: the day of now", x.back(), 10);
        check.due("30: PUSH 0", x.pace(0, 0, 1), 10);
        check.due("30: PUSH 1", x.pace(1, 0, 1), 8);
        check.due("30: SWAY 0", x.pace(0, 1, 1), 20);
        check.due("30: SWAY 1", x.pace(1, 1, 1), 15);
        check.due("30: drift 0", x.clock(0, 0), 5);
        check.due("30: drift 1", x.clock(1, 0), -5);
        int[] shakes = {10, 20, 3000, 20, 30, 4000};
        for (int i = 0; i < 6; i++) {
            check.due("30: shake " + i / 3 + ", what " + i % 3, x.shakeTold(i / 3, i % 3), shakes[i]);
        }
        check.due("30: wrong 0", x.cardTold(0, 6, 0), 0);
        check.due("30: wrong 1", x.cardTold(1, 6, 0), 1);
        check.due("30: wrong 2", x.cardTold(2, 6, 0), 0);
    }

    private static void whatCameSinceStays() {
        DrumWorld x = world();
        x.image();
        x.shell(50, 33, 44);
        x.drum(7, 70, 7);
        x.shake(77, 7, 777);
        x.card(5, 2, 2, 7777);
        x.wrong(3, 1);
        check.due("30: back", x.back(), 0);
        int[] counts = {0, 3, 3, 3, 4};
        for (int what = 0; what < counts.length; what++) {
            check.due("30: count " + what, x.count(what), counts[what]);
        }
        check.due("30: PUSH 2", x.pace(2, 0, 1), 33);
        check.due("30: SWAY 2", x.pace(2, 1, 1), 44);
        check.due("30: drift 2", x.clock(2, 0), 70);
        check.due("30: place 2", x.shakeTold(2, 0), 77);
        check.due("30: depth 2", x.shakeTold(2, 1), 7);
        check.due("30: hour 2", x.shakeTold(2, 2), 777);
        check.due("30: wrong 3", x.cardTold(3, 6, 0), 1);
        DrumWorld y = new DrumWorld();
        check.due("29: of nothing", y.image(), 0);
        y.shell(10, 20, 30);
        y.drum(1, 2, 3);
        y.days(4);
        check.due("30: of nothing", y.back(), 4);
        check.due("30: the shell stays", y.pace(0, 0, 1), 20);
        check.due("30: the drum stays", y.clock(0, 1), 2);
    }

    private static void whatIsNotKept() {
        DrumWorld x = world();
        Check.text(x, "take 1;call 2;");
        x.image();
        x.mend(0, 6000);
        x.force(1);
        Check.feed(x, "abc");
        Check.ints(x, 0, 10);
        x.refit(0, 99999);
        int[] told = {x.refitTold(0), x.refitTold(1), x.refitTold(2)};
        x.watch(0, 1, 10);
        x.back();
        check.due("30: mended", x.cardTold(0, 3, 0), 6000);
        check.due("30: mended", x.mend(0, 1), -3);
        check.due("30: the rule", x.count(6), 1);
        check.due("30: the tape", x.count(7), 3);
        check.due("30: the sheet", x.cell(0, 0, 1), 1);
        check.due("30: watched", x.watched(), 1);
        for (int i = 0; i < 3; i++) {
            check.due("30: refit", x.refitTold(i), told[i]);
        }
    }

    private static void again() {
        DrumWorld x = world();
        x.image();
        x.clock(0, 9);
        x.back();
        x.clock(0, 8);
        check.due("30: twice", x.back(), 0);
        check.due("30: as kept", x.clock(0, 1), 5);
        x.image();
        x.clock(0, 2);
        x.wrong(1, 0);
        x.wrong(0, 1);
        x.image();
        x.wrong(0, 0);
        x.clock(0, 3);
        x.back();
        check.due("30: the last image", x.clock(0, 3), 2);
        check.due("30: the last image", x.cardTold(0, 6, 0), 1);
        check.due("30: the last image", x.cardTold(1, 6, 0), 0);
        x.drum(1, 44, 1);
        x.image();
        x.clock(2, 45);
        x.back();
        check.due("30: of more drums", x.clock(2, 0), 44);
    }
}
