/** Promises 14 to 17: the tape, texts, the rule. */
public final class RulesTest {
    private static final Check check = new Check("RulesTest");

    public static void main(String[] args) {
        fed();
        texts();
        faults();
        open();
        forced();
        laws();
        firstRule();
        names();
        sums();
        check.close();
    }

    private static void fed() {
        DrumWorld x = new DrumWorld();
        check.due("14: n 0", x.feed(1, 0), -2);
        check.due("14: n 9", x.feed(1, 9), -2);
        check.due("14: n -1", x.feed(1, -1), -2);
        check.due("14: n the least int", x.feed(1, Integer.MIN_VALUE), -2);
        for (int i = 1; i <= 19; i++) {
            check.due("14: eight more", x.feed(-1L, 8), 8 * i);
        }
        check.due("14: 159", x.feed(0, 7), 159);
        check.due("14: beyond 160", x.feed(0, 2), -4);
        check.due("14: as it was", x.count(7), 159);
        check.due("14: 160", x.feed(0, 1), 160);
        check.due("14: FULL", x.feed(0, 1), -4);
        check.due("14: BAD ahead of FULL", x.feed(0, 9), -2);
        check.due("14: the first byte is wrong", x.text(), -100);
        check.due("14: empty then", x.count(7), 0);
        // "take 1;" with other bytes above it, which do not come along
        check.due("14: the lowest bytes", x.feed(0x7a74616b6520313bL, 7), 7);
        check.due("14: the highest first", x.feed(0x63616c6c20323bL, 7), 14);
        check.due("14: a text of it", x.text(), 1);
    }

    private static void texts() {
        DrumWorld x = new DrumWorld();
        check.due("15: nothing on it", x.text(), -100);
        check.due("15: first", Check.text(x, "take 1 ; call 2 ;"), 1);
        check.due("15: the tape is empty", x.count(7), 0);
        check.due("15: without blanks", Check.text(x, "take late<50and noise<4;call 4=kind;"), 2);
        check.due("15: blanks and lines", Check.text(x, "\n take\n1;call 2; \n"), 3);
        check.due("15: a fault", Check.text(x, "take 1 ; call ;"), -114);
        check.due("15: empty by a fault, too", x.count(7), 0);
        check.due("15: number 4", Check.text(x, "take(1);call(2);"), 4);
        String most = "take 1" + "+1".repeat(65) + ";call 1" + "-1".repeat(8) + ";";
        check.due("15: of 160 bytes", Check.feed(x, most + " ".repeat(160 - most.length())), 160);
        check.due("15: number 5", x.text(), 5);
        check.due("15: six", x.count(5), 6);
        Check.feed(x, "no text");
        check.due("15: FULL ahead of the fault", x.text(), -4);
        check.due("15: the tape stays", x.count(7), 7);
    }

    private static void fault(String letters, int place) {
        check.due("15: \"" + letters + "\"", Check.text(new DrumWorld(), letters), -100 - place);
    }

    private static void faults() {
        fault("", 0);
        fault("   ", 3);
        fault("take", 4);
        fault("take  ", 6);
        fault("  call 1 ;", 2);
        fault("take 1", 6);
        fault("take 1 ;", 8);
        fault("take 1 ; ", 9);
        fault("take 1 ; take 2 ;", 9);
        fault("take 1 ; call", 13);
        fault("take 1 ; call 2", 15);
        fault("take 1 ; call 2 ; ;", 18);
        fault("take 1 ; call 2 ; call 3 ;", 18);
        fault("take 1 ; call 2 ; ?", 18);
        fault("takes 1 ; call 2 ;", 0);
        fault("take1 ; call 2 ;take", 16);
        fault("Take 1 ; call 2 ;", 0);
        fault("take ; call 2 ;", 5);
        fault("take tak ; call 2 ;", 5);
        fault("take call ; call 2 ;", 5);
        fault("take 12345 ; call 2 ;", 5);
        fault("take 00001 ; call 2 ;", 5);
        fault("take 1 12345 ; call 2 ;", 7);
        fault("take 1 2 ; call 2 ;", 7);
        fault("take 12late ; call 2 ;", 7);
        fault("take late12 ; call 2 ;", 9);
        fault("take latefar ; call 2 ;", 5);
        fault("take late far ; call 2 ;", 10);
        fault("take 1 < 2 < 3 ; call 2 ;", 11);
        fault("take 1 = 2 < 3 ; call 2 ;", 11);
        fault("take 1 <= 2 ; call 2 ;", 8);
        fault("take 1 == 2 ; call 2 ;", 8);
        fault("take 1 + ; call 2 ;", 9);
        fault("take 1 + + 2 ; call 2 ;", 9);
        fault("take + 2 ; call 2 ;", 5);
        fault("take 1 * * 2 ; call 2 ;", 9);
        fault("take 1 * not 2 ; call 2 ;", 9);
        fault("take 1 < not 2 ; call 2 ;", 9);
        fault("take - not 2 ; call 2 ;", 7);
        fault("take 1 not 2 ; call 2 ;", 7);
        fault("take 1 and ; call 2 ;", 11);
        fault("take or 1 ; call 2 ;", 5);
        fault("take 1 or or 1 ; call 2 ;", 10);
        fault("take not ; call 2 ;", 9);
        fault("take ( 1 ; call 2 ;", 9);
        fault("take 1 ) ; call 2 ;", 7);
        fault("take ( ) ; call 2 ;", 7);
        fault("take (1 2) ; call 2 ;", 8);
        fault("take (1", 7);
        fault("take 1\t; call 2 ;", 6);
        fault("take 1\r\n; call 2 ;", 6);
        fault("take 1 , call 2 ;", 7);
        fault("take 1 > 2 ; call 2 ;", 7);
        fault("take 1 / 2 ; call 2 ;", 7);
        fault("take 1 ; call 2 : ", 16);
        fault("take \u00e9 ; call 2 ;", 5);
        fault("take \u0000 ; call 2 ;", 5);
        fault("take late\u00e9 ; call 2 ;", 9);
        fault("take lateA ; call 2 ;", 9);
        fault("take `late ; call 2 ;", 5);
        fault("take {late ; call 2 ;", 5);
        fault("take latez ; call 2 ;", 5);
        fault("take late ; callz 2 ;", 12);
        fault("take /1 ; call 2 ;", 5);
        fault("take :1 ; call 2 ;", 5);
    }

    private static void stands(String e) {
        check.due("15: \"" + e + "\"", Check.text(new DrumWorld(), "take " + e + ";call 1;"), 1);
    }

    private static void open() {
        stands("(((((1)))))");
        fault("take ((((((1))))));call 1;", 10);
        stands("-----1");
        fault("take ------1;call 1;", 10);
        stands("not not not not not 1");
        fault("take not not not not not not 1;call 1;", 25);
        stands("not(not(-1))");
        fault("take not(not(-(1)));call 1;", 14);
        stands("not not not not not 1 and not not not not not 1");
        stands("-----1+-----1--1");
        stands("-----1*-----1");
        stands("(((((1)))))<(((((1)))))or(((((1)))))");
        fault("take not not not not not -1;call 1;", 25);
        fault("take not not not not not (1);call 1;", 25);
        fault("take not not not not not 1 + -1;call 1;", 29);
        fault("take not not not not not 1 < (1);call 1;", 29);
        stands("not not not not not 1 - 1");
        fault("take -----(1);call 1;", 10);
        fault("take (((((-1)))));call 1;", 10);
        fault("take (((((not 1)))));call 1;", 10);
        fault("take (((((1)))) + ((((((1))))));call 1;", 22);
        stands("(-(not-1))");
        fault("take (-(not-(1)));call 1;", 12);
    }

    private static void forced() {
        DrumWorld x = new DrumWorld();
        check.due("16: no text 1", x.force(1), -2);
        check.due("16: -1", x.force(-1), -2);
        check.due("16: itself", x.force(0), 0);
        Check.text(x, "take 1 ; call 2 ;");
        check.due("16: made, not forced", x.count(6), 0);
        check.due("16: which was", x.force(1), 0);
        check.due("16: which was", x.force(0), 1);
        check.due("16: which was", x.force(1), 0);
        check.due("16: no text 2", x.force(2), -2);
        check.due("16: as it was", x.count(6), 1);
    }

    private static DrumWorld world() {
        DrumWorld x = new DrumWorld();
        x.shell(100, 10, 0);
        x.shell(100, 8, 0);
        x.drum(10, -5, 3);
        x.drum(200, 7, 4);
        x.shake(340, 47, 1000);
        x.card(0, 0, 0, 3000);
        x.card(1, 1, 0, 3000);
        return x;
    }

    private static void laws() {
        DrumWorld x = world();
        int late = 3000 + 5 - 1000 - (30 * 60 - 47);
        check.due("17: late by", x.cardTold(0, 4, 0), late);
        check.due("17: take", x.law(0, 0, 0), 0);
        check.due("17: call", x.law(0, 1, 0), 1);
        check.due("17: no card", x.law(2, 0, 0), DrumWorld.NO);
        check.due("17: card -1", x.law(-1, 0, 0), DrumWorld.NO);
        check.due("17: part 2", x.law(0, 2, 0), DrumWorld.NO);
        check.due("17: part -1", x.law(0, -1, 0), DrumWorld.NO);
        check.due("17: day 1", x.law(0, 0, 1), DrumWorld.NO);
        check.due("17: day -1", x.law(0, 0, -1), DrumWorld.NO);
        x.days(2);
        x.mend(0, 3000 - late + 49);
        check.due("17: known", x.law(0, 0, 2), 1);
        check.due("17: not known", x.law(0, 0, 1), 0);
        x.wrong(0, 1);
        check.due("17: also of a wrong one", x.law(0, 0, 2), 1);
        x.card(4, 1, 0, 0);
        check.due("17: far < 100", x.law(1, 1, 0), 0);
        check.due("17: 4 = kind", x.law(2, 1, 2), 1);
        check.due("17: a card that isn't told yet", x.law(2, 1, 0), 1);
    }

    /** late, noise, far, kind; take and call. */
    private static void firstRule() {
        int[][] asked = {{49, 3, 99, 0, 1, 1}, {50, 3, 99, 0, 0, 1}, {49, 4, 100, 0, 0, 0}, {-49, 0, 0, 0, 1, 1},
            {-50, 0, 100, 4, 0, 1}, {0, 9, 180, 4, 0, 1}, {0, 3, 180, 1, 1, 0}};
        for (int[] a : asked) {
            DrumWorld x = new DrumWorld();
            x.shell(100, 1, 1);
            x.drum(a[2], 0, a[1]);
            x.shake(0, 0, 5000);
            x.card(a[3], 0, 0, 5000 + 6 * a[2] + a[0]);
            check.due("17: late", x.cardTold(0, 4, 0), a[0]);
            check.due("17: take, late " + a[0] + ", noise " + a[1], x.law(0, 0, 0), a[4]);
            check.due("17: call, far " + a[2] + ", kind " + a[3], x.law(0, 1, 0), a[5]);
        }
    }

    private static void comesTo(String e, int card, long want) {
        DrumWorld x = world();
        check.due("17: text " + e, Check.text(x, "take 7;call " + e + ";"), 1);
        x.force(1);
        check.due("17: " + e, x.law(card, 1, 0), want);
        check.due("17: take", x.law(card, 0, 0), 7);
    }

    private static void names() {
        comesTo("late", 0, 252);
        comesTo("late", 1, 9999);
        comesTo("far", 0, 30);
        comesTo("far", 1, 140);
        comesTo("kind", 0, 0);
        comesTo("kind", 1, 1);
        comesTo("noise", 0, 3);
        comesTo("drift", 0, -5);
        comesTo("drift", 1, 7);
        comesTo("depth", 0, 47);
        DrumWorld x = world();
        x.card(0, 0, 0, 0);
        x.card(0, 0, 0, 9999999);
        Check.text(x, "take late;call 1;");
        x.force(1);
        check.due("17: without sign", x.law(2, 0, 0), 2748);
        check.due("17: 9999 at most", x.law(3, 0, 0), 9999);
        x.clock(0, 20);
        check.due("17: by the drift of now", x.law(2, 0, 0), 2773);
    }

    private static void sums() {
        comesTo("9999", 0, 9999);
        comesTo("0007", 0, 7);
        comesTo("2+3*4", 0, 14);
        comesTo("(2+3)*4", 0, 20);
        comesTo("10-3-2", 0, 5);
        comesTo("10-(3-2)", 0, 9);
        comesTo("- 3 + 5", 0, 2);
        comesTo("2 - -3", 0, 5);
        comesTo("-2*-3", 0, 6);
        comesTo("--7", 0, 7);
        comesTo("1<2", 0, 1);
        comesTo("2<2", 0, 0);
        comesTo("2=2", 0, 1);
        comesTo("2=3", 0, 0);
        comesTo("1+1=2", 0, 1);
        comesTo("3<1+1", 0, 0);
        comesTo("-1<0", 0, 1);
        comesTo("not 0", 0, 1);
        comesTo("not 5", 0, 0);
        comesTo("not -5", 0, 0);
        comesTo("not not 5", 0, 1);
        comesTo("not 1=2", 0, 1);
        comesTo("not 0 and 0", 0, 0);
        comesTo("5 and 6", 0, 1);
        comesTo("5 and 0", 0, 0);
        comesTo("0 and 5", 0, 0);
        comesTo("0 or -1", 0, 1);
        comesTo("0 or 0", 0, 0);
        comesTo("5 or 0", 0, 1);
        comesTo("1 or 1 and 0", 0, 1);
        comesTo("(1 or 1) and 0", 0, 0);
        comesTo("0 and 0 or 1", 0, 1);
        comesTo("1 and 2 and 3", 0, 1);
        comesTo("0 or 0 or 3", 0, 1);
        comesTo("(1<2)+(2<3)", 0, 2);
        comesTo("9999*9999*9999", 0, 9999 * 9999 * 9999);
        comesTo("9999*9999*100-9999*9999", 0, 9999 * 9999 * 100 - 9999 * 9999);
        comesTo("-(9999*9999*43)", 0, -(9999 * 9999 * 43));
        comesTo("9999*9999*22<0", 0, 1);
        comesTo("late-far*kind", 1, 9859);
    }
}
