/** The edges that the document names for the tape, texts and the rule: promises 14 to 17. */
public final class EdgesRulesTest {
    private static final Check check = new Check("EdgesRulesTest");
    private static final String SHORT = "take 1;call 1;";

    public static void main(String[] args) {
        tapeSize();
        words();
        keysAndNames();
        numbers();
        signsAndBlanks();
        blanksBetween();
        textShape();
        compared();
        joined();
        ones();
        wraps();
        truth();
        faultPlaces();
        fiveOpen();
        openTillItEnds();
        sixTexts();
        firstRule();
        lateOfACard();
        otherNames();
        fedBytes();
        feedAnswers();
        textAnswers();
        forceAnswers();
        lawAnswers();
        check.close();
    }

    private static Run run(String... rows) {
        return new Run(check, rows);
    }

    private static void reads(String letters) {
        run().tape(letters).rows("text() = 1", "count(7) = 0", "count(5) = 2");
    }

    private static void fault(String letters, int place) {
        Run x = run().tape(letters);
        x.due("text() of \"" + letters + "\"", x.answer("text()"), -100 - place);
        x.rows("count(7) = 0", "count(5) = 1", "count(6) = 0");
    }

    private static void faultIn(String e, int place) {
        fault("take " + e + ";call 1;", 5 + place);
        fault("take 1;call " + e + ";", 12 + place);
    }

    private static void comesTo(String e, long want) {
        Run x = run("shell(100, 10, 0)", "shell(100, 8, 0)", "drum(10, -5, 3)", "shake(340, 47, 1000)", "card(0, 0, 0, 3000)");
        x.rule("take " + e + ";call 8;");
        x.due("take " + e, x.answer("law(0, 0, 0)"), want);
        x.rows("law(0, 1, 0) = 8");
        Run y = run("drum(0, 0, 0)", "shake(0, 0, 0)", "card(1, 0, 0, 0)").rule("take 8;call " + e + ";");
        y.rows("law(0, 0, 0) = 8");
    }

    private static void tapeSize() {
        check.says("A TEXT is read from THE TAPE (160 bytes at most).");
        String most = SHORT + " ".repeat(160 - SHORT.length());
        run().tape(most).rows("count(7) = 160", "feed(32, 1) = FULL", "feed(0, 8) = FULL", "count(7) = 160", "text() = 1",
            "count(7) = 0", "feed(32, 1) = 1");
        String sums = "take 1" + "+1".repeat(73) + ";call 1;";
        run().tape(sums.substring(0, sums.length() - 1)).rows("count(7) = 159", "feed(8224, 2) = FULL", "count(7) = 159",
            "feed(59, 1) = 160", "text() = 1", "force(1)", "drum(0, 0, 0)", "shake(0, 0, 0)", "card(0, 0, 0, 0)", "law(0, 0, 0) = 74");
        fault(" ".repeat(160), 160);
        fault(" ".repeat(159) + "?", 159);
        fault("1".repeat(160), 0);
        // as many tokens as bytes
        fault(";".repeat(160), 0);
        fault("?".repeat(160), 0);
        fault("take " + "(".repeat(155), 10);
        fault("take 1" + "*1".repeat(77), 160);
        fault("take " + "1 + ".repeat(38) + "1  ", 160);
    }

    private static void words() {
        check.says("TOKENS, each as long as can be: WORDS (as many letters a .. z as stand there)");
        faultIn("late" + (char) 96, 4);
        faultIn("late" + (char) 123, 4);
        faultIn((char) 96 + "late", 0);
        faultIn((char) 123 + "late", 0);
        faultIn("latea", 0);
        faultIn("latez", 0);
        faultIn("alate", 0);
        faultIn("zlate", 0);
        faultIn("lateA", 4);
        faultIn("lateZ", 4);
        faultIn("Late", 0);
        faultIn("latelate", 0);
        faultIn("late late", 5);
        faultIn("1 orlate", 2);
        faultIn("notlate", 0);
        faultIn("late1", 4);
        fault("takelate;call 1;", 0);
        fault("take 1;calllate;", 7);
        fault("a".repeat(160), 0);
        run().tape("take(1)or(2)and not(3);call-kind;").rows("text() = 1");
    }

    private static void keysAndNames() {
        check.says("NAMES: late far kind noise drift depth.");
        String[] names = {"late", "far", "kind", "noise", "drift", "depth"};
        for (String name : names) {
            reads("take " + name + ";call " + name + ";");
        }
        check.says("of a WORD that is neither KEY nor NAME");
        for (String name : names) {
            faultIn(name.substring(1), 0);
            faultIn(name.substring(0, name.length() - 1), 0);
            faultIn(name + "s", 0);
            faultIn("1 " + name, 2);
        }
        for (String word : new String[] {"a", "z", "nor", "tak", "cal", "an", "no", "o", "r", "ot", "text", "shake"}) {
            faultIn(word, 0);
            faultIn("1 " + word, 2);
            faultIn("1 + " + word, 4);
            faultIn("(" + word + ")", 1);
        }
        for (String key : new String[] {"take", "call", "or", "and"}) {
            faultIn(key + " 1", 0);
            faultIn("1 + " + key, 4);
        }
        for (String key : new String[] {"take", "call", "not"}) {
            faultIn("1 " + key + " 1", 2);
        }
    }

    private static void numbers() {
        check.says("NUMBERS (as many digits as stand there; more than 4 are too long)");
        comesTo("9999", 9999);
        comesTo("0", 0);
        comesTo("0000", 0);
        comesTo("0009", 9);
        comesTo("1000", 1000);
        reads("take 1234 + 5678;call 9999;");
        check.says("a NUMBER that is too long");
        faultIn("10000", 0);
        faultIn("00000", 0);
        faultIn("99999", 0);
        faultIn("1 + 12345", 4);
        faultIn("1 12345", 2);
        faultIn("1234 5", 5);
        faultIn("1234" + (char) 47, 4);
        faultIn("1234" + (char) 58, 4);
        faultIn((char) 47 + "1", 0);
        faultIn((char) 58 + "1", 0);
        faultIn("12late", 2);
        fault("take " + "9".repeat(155), 5);
    }

    /** Each byte there is, behind a number of one digit that a ; follows. */
    private static void signsAndBlanks() {
        check.says("SIGNS ( ) ; + - * < = ; blanks (32, 10) may stand between");
        for (int b = 0; b < 256; b++) {
            String text = "take 1" + (char) b + ";call 1;";
            boolean stands = b == 32 || b == 10 || b >= '0' && b <= '9';
            boolean isJoin = b == '+' || b == '-' || b == '*' || b == '<' || b == '=' || b == ';';
            if (stands) {
                reads(text);
            } else {
                fault(text, isJoin ? 7 : 6);
            }
        }
    }

    private static void blanksBetween() {
        check.says("blanks (32, 10) may stand between");
        reads("take 1;call 1;");
        reads(" take 1;call 1;");
        reads("\ntake 1;call 1;\n");
        reads("take\n\n 1 \n;\ncall\n1\n;\n ");
        reads("take(1)<(2);call-1;");
        reads("take-1;call(1);");
        fault("ta ke 1;call 1;", 0);
        fault("take 1 2;call 1;", 7);
        fault("take 1\n2;call 1;", 7);
        fault("take no t 1;call 1;", 5);
        fault("take\t1;call 1;", 4);
        fault("take\r1;call 1;", 4);
        fault("take" + (char) 160 + "1;call 1;", 4);
        fault("take" + (char) 0 + "1;call 1;", 4);
    }

    /** Each beginning of a text: a fault at its end, or at a word that is cut. */
    private static void textShape() {
        check.says("TEXT: take E ; call E ;");
        String whole = "take 1 ; call 2 ;";
        int[] places = {0, 0, 0, 0, 4, 5, 6, 7, 8, 9, 9, 9, 9, 13, 14, 15, 16};
        for (int size = 0; size < whole.length(); size++) {
            fault(whole.substring(0, size), places[size]);
        }
        reads(whole);
        for (String more : new String[] {";", "1", "take", "call 1 ;", "or 1", "?", "("}) {
            fault(whole + more, 17);
        }
        fault("call 1;take 1;", 0);
        fault("take 1;take 1;", 7);
        fault("take;call 1;", 4);
        fault("take 1;call;", 11);
        fault("take 1 call 1;", 7);
        fault(";take 1;call 1;", 0);
        fault("1;call 1;", 0);
        fault("take 1;;call 1;", 7);
    }

    private static void compared() {
        check.says("NOT: not NOT, or SUM, perhaps < or = and a SUM");
        comesTo("1<2", 1);
        comesTo("2<2", 0);
        comesTo("3<2", 0);
        comesTo("2=2", 1);
        comesTo("2=1", 0);
        comesTo("1=2", 0);
        comesTo("(1<2)<3", 1);
        comesTo("3<(1<2)", 0);
        comesTo("1+1<1*3", 1);
        comesTo("not 1<2", 0);
        comesTo("not not 7", 1);
        faultIn("1<2<3", 3);
        faultIn("1<2=3", 3);
        faultIn("1=2<3", 3);
        faultIn("1=2=3", 3);
        faultIn("1<=2", 2);
        faultIn("1=<2", 2);
        faultIn("1<", 2);
        faultIn("<1", 0);
        faultIn("1<not 2", 2);
        faultIn("1=not 2", 2);
        faultIn("not", 3);
    }

    private static void joined() {
        check.says("E: AND { or AND }. AND: NOT { and NOT }.");
        comesTo("1 or 0 and 0", 1);
        comesTo("0 and 0 or 1", 1);
        comesTo("(1 or 0) and 0", 0);
        comesTo("0 or 0 or 0 or 2", 1);
        comesTo("1 and 2 and 3 and 0", 0);
        comesTo("not 0 and 0", 0);
        comesTo("not 0 or 1", 1);
        comesTo("0 or not 0", 1);
        comesTo("1 and not 0", 1);
        faultIn("1 or", 4);
        faultIn("1 and", 5);
        faultIn("1 or or 1", 5);
        faultIn("1 and and 1", 6);
        faultIn("1 and or 1", 6);
        faultIn("or 1", 0);
        faultIn("and 1", 0);
    }

    private static void ones() {
        check.says("SUM: TERM { + or - TERM }. TERM: ONE { * ONE }. ONE: a NUMBER, a NAME, - ONE, ( E ).");
        comesTo("10-3-2", 5);
        comesTo("10-3+2", 9);
        comesTo("2+3*4", 14);
        comesTo("2*3+4", 10);
        comesTo("-2*3", -6);
        comesTo("2*-3", -6);
        comesTo("2--3", 5);
        comesTo("-2-3", -5);
        comesTo("-(2-3)", 1);
        comesTo("(0 or 5)*7", 7);
        comesTo("(((((3)))))", 3);
        faultIn("+1", 0);
        faultIn("*1", 0);
        faultIn("1+", 2);
        faultIn("1-", 2);
        faultIn("1*", 2);
        faultIn("1++2", 2);
        faultIn("1*+2", 2);
        faultIn("1**2", 2);
        faultIn("-", 1);
        faultIn("-not 1", 1);
        faultIn("()", 1);
        faultIn("(1", 2);
        faultIn("(1 2)", 3);
        faultIn("1)", 1);
        faultIn("(1))", 3);
        faultIn("(;", 1);
        faultIn("1(2)", 1);
    }

    private static void wraps() {
        check.says("An E is an int (32 bits, wrapping)");
        String least = "8192*8192*32";
        comesTo(least, Integer.MIN_VALUE);
        comesTo(least + "-1", Integer.MAX_VALUE);
        comesTo(least + "-1+1", Integer.MIN_VALUE);
        comesTo(least + "-1+9999", Integer.MIN_VALUE + 9998);
        comesTo("-(" + least + ")", Integer.MIN_VALUE);
        comesTo("-(" + least + "-1)", -Integer.MAX_VALUE);
        comesTo("(" + least + ")*-1", Integer.MIN_VALUE);
        comesTo("(" + least + ")*2", 0);
        comesTo("(" + least + "-1)*2", -2);
        comesTo("8192*8192*64", 0);
        comesTo("8192*8192*31", 2080374784);
        comesTo("9999*9999*9999*9999", 9999 * 9999 * 9999 * 9999);
        comesTo(least + "<0", 1);
        comesTo(least + "-1<0", 0);
        comesTo(least + "<" + least + "-1", 1);
        comesTo(least + "-1<" + least, 0);
        comesTo(least + "=-(" + least + ")", 1);
    }

    private static void truth() {
        check.says("of or, and, not, <, = 1 or 0 (what is not 0 is true)");
        comesTo("5 or 0", 1);
        comesTo("0 or 5", 1);
        comesTo("-1 or 0", 1);
        comesTo("5 or 6", 1);
        comesTo("0 or 0", 0);
        comesTo("5 and 6", 1);
        comesTo("-1 and -2", 1);
        comesTo("5 and 0", 0);
        comesTo("0 and 5", 0);
        comesTo("0 and 0", 0);
        comesTo("1 and 2", 1);
        comesTo("not 0", 1);
        comesTo("not 1", 0);
        comesTo("not 2", 0);
        comesTo("not -1", 0);
        comesTo("not 8192*8192*32", 0);
        comesTo("8192*8192*32 and 1", 1);
        comesTo("8192*8192*64 or 0", 0);
        comesTo("(1<2)+(1=1)", 2);
    }

    private static void faultPlaces() {
        check.says("FAULT: the place of the first byte of the first TOKEN that can't stand there (the text's size, if it ends "
            + "too early), also of a byte that begins none");
        fault("", 0);
        fault(" ", 1);
        fault("\n\n", 2);
        fault("take 1;call 1", 13);
        fault("take 1;call 1   ", 16);
        fault("take (1", 7);
        fault("take 1 +   ", 11);
        fault("?", 0);
        fault("   ?", 3);
        fault("take 1;call 1;?", 14);
        fault("take 1;call 1;  ?", 16);
        fault("take 1 1 ? 12345", 7);
        fault("take ? 1 1", 5);
        fault("take 12345 ?", 5);
        fault("take hello ?", 5);
        fault("take late" + (char) 255 + ";call 1;", 9);
        fault("take late" + (char) 128 + ";call 1;", 9);
        fault((char) 0 + "take 1;call 1;", 0);
    }

    /** All rows of five of these, where a not may stand: a sixth one can't, but behind a - that has ended. */
    private static void fiveOpen() {
        check.says("a ( , a not, a - ahead of a ONE while 5 of these are open");
        String[] openers = {"(", "-", "not "};
        for (int made = 0; made < 3 * 3 * 3 * 3 * 3; made++) {
            StringBuilder e = new StringBuilder();
            StringBuilder ends = new StringBuilder();
            boolean isNotAllowed = true;
            boolean stands = true;
            int rest = made;
            for (int i = 0; i < 5; i++) {
                stands &= rest % 3 != 2 || isNotAllowed;
                isNotAllowed = rest % 3 != 1;
                e.append(openers[rest % 3]);
                ends.append(rest % 3 == 0 ? ")" : "");
                rest /= 3;
            }
            if (stands) {
                reads("take " + e + "1" + ends + ";call 1;");
                faultIn(e + "(1)" + ends, e.length());
                faultIn(e + "-1" + ends, e.length());
                faultIn(e + "not 1" + ends, e.length());
                if (isNotAllowed) {
                    faultIn(e + "1+-1" + ends, e.length() + 2);
                } else {
                    reads("take " + e + "1+-1" + ends + ";call 1;");
                }
            }
        }
    }

    private static void openTillItEnds() {
        check.says("(a ( till its ) , not and - till what they belong to ends)");
        reads("take (((((1)))))+(((((1)))))*(((((1)))));call 1;");
        reads("take (((((1)))))<(((((1)))))and(((((1)))));call 1;");
        reads("take -----1*-----1+-----1;call -----1--1;");
        reads("take not not not not not 1 and not not not not not 1;call 1;");
        reads("take not not not not not 1<2 or not 1;call 1;");
        reads("take ((((-1+-1))));call ((((not 1 and not 1 or not 1))));");
        reads("take not not not(-1<2)or-1;call 1;");
        reads("take (((((1))))) or not not not not not 1;call (((((1)))));");
        reads("take (((((1-1)))));call not not not not not 1-1;");
        faultIn("not not not not not 1<-1", 22);
        faultIn("not not not not not 1=(1)", 22);
        faultIn("not not not not not 1+-1", 22);
        faultIn("not not not not not 1*-1", 22);
        faultIn("not not not not -1 and not not not not --1", 40);
        faultIn("((((-1*-(1)))))", 8);
        faultIn("((((1)-(1)+(-(1)))))", 13);
        faultIn("(((((1)))))+((((((1))))))", 17);
    }

    private static void sixTexts() {
        check.says("TEXTS are numbered from 0 on, 6 at most");
        Run x = run("count(5) = 1", "force(1) = BAD");
        for (int t = 1; t < 6; t++) {
            x.tape("take " + t + ";call 1;").rows("text() = " + t, "count(5) = " + (t + 1), "force(" + (t + 1) + ") = BAD");
        }
        x.tape(SHORT).rows("text() = FULL", "count(5) = 6", "count(7) = 14", "text() = FULL", "drum(0, 0, 0)", "shake(0, 0, 0)",
            "card(0, 0, 0, 0)", "force(5) = 0", "law(0, 0, 0) = 5", "force(1) = 5", "law(0, 0, 0) = 1", "force(0) = 1",
            "law(0, 1, 0) = 1");
    }

    /** A card that is so late, at a drum so noisy and so far, of such a kind: what the first rule says of it. */
    private static void firstRuleSays(int late, int noise, int far, int kind, int take, int call) {
        int push = 6 * far;
        int due = kind == 0 || kind == 4 ? push : 2 * push;
        run("shell(100, 1, 2)", "drum(" + far + ", 0, " + noise + ")", "shake(0, 0, 20000)", "pace(0, 1, " + (kind == 4 ? 1 : 2) + ")",
            "card(" + kind + ", 0, 0, " + (20000 + due + late) + ")", "cardTold(0, 4, 0) = " + late,
            "law(0, 0, 0) = " + take, "law(0, 1, 0) = " + call, "force(0) = 0", "law(0, 0, 0) = " + take);
    }

    private static void firstRule() {
        check.says("TEXT 0, at first, and THE RULE: take late < 50 and noise < 4 ; call far < 100 or 4 = kind ;");
        run("count(6) = 0", "count(5) = 1");
        firstRuleSays(49, 3, 99, 0, 1, 1);
        firstRuleSays(50, 3, 99, 0, 0, 1);
        firstRuleSays(-49, 3, 100, 0, 1, 0);
        firstRuleSays(-50, 3, 100, 0, 0, 0);
        firstRuleSays(0, 4, 99, 1, 0, 1);
        firstRuleSays(0, 0, 100, 1, 1, 0);
        firstRuleSays(0, 9, 180, 4, 0, 1);
        firstRuleSays(49, 3, 0, 4, 1, 1);
    }

    private static void lateOfACard() {
        check.says("late: how LATE it is, without sign, 9999 at most (9999: NEVER)");
        Run x = run("shell(100, 1, 0)", "drum(0, 0, 0)", "shake(0, 0, 20000)").rule("take late;call late=9999;");
        int[] lates = {0, 1, -1, 9998, -9998, 9999, -9999, 10000, -10000, 9979999, -20000};
        for (int c = 0; c < lates.length; c++) {
            int want = Math.min(9999, Math.abs(lates[c]));
            x.rows("card(0, 0, 0, " + (20000 + lates[c]) + ") = " + c, "cardTold(" + c + ", 4, 0) = " + lates[c]);
            x.rows("law(" + c + ", 0, 0) = " + want, "law(" + c + ", 1, 0) = " + (want == 9999 ? 1 : 0));
        }
        x.rows("card(1, 0, 0, 20000) = 11", "cardTold(11, 4, 0) = NEVER", "law(11, 0, 0) = 9999", "law(11, 1, 0) = 1");
        x.rows("days(1)", "mend(0, 20007)", "law(0, 0, 0) = 0", "law(0, 0, 1) = 7", "clock(0, 9)", "law(0, 0, 1) = 2",
            "law(0, 0, 0) = 9");
    }

    private static void otherNames() {
        check.says("far: how far both are APART; kind; noise, drift of the DRUM; depth of the SHAKE");
        Run x = run("drum(0, -99, 0)", "drum(180, 99, 9)", "shake(0, 0, 0)", "shake(359, 99, 0)", "card(0, 0, 0, 0)",
            "card(5, 1, 1, 0)", "card(3, 1, 0, 0)").rule("take far*10+kind;call depth*10+noise;");
        x.rows("law(0, 0, 0) = 0", "law(1, 0, 0) = 1795", "law(2, 0, 0) = 1803", "law(0, 1, 0) = 0", "law(1, 1, 0) = 999",
            "law(2, 1, 0) = 9");
        x.rule("take drift;call 1;").rows("law(0, 0, 0) = -99", "law(1, 0, 0) = 99", "clock(1, 0)", "law(1, 0, 0) = 0");
    }

    private static void fedBytes() {
        check.says("The n lowest bytes of w, the highest first, come behind THE TAPE's: how many it has. BAD: n not 1 .. 8; FULL.");
        run("feed(8386659304893852007, 8) = 8", "feed(544567161, 4) = 12", "text() = -100");
        byte[] bytes = SHORT.getBytes(java.nio.charset.StandardCharsets.US_ASCII);
        for (int n = 1; n <= 8; n++) {
            Run x = run();
            for (int from = 0; from < bytes.length; from += n) {
                int many = Math.min(n, bytes.length - from);
                long w = -1L;
                for (int i = 0; i < many; i++) {
                    w = w << 8 | bytes[from + i];
                }
                x.due("feed(" + w + ", " + many + ")", from + many);
            }
            x.rows("text() = 1");
        }
        run("feed(0, 1) = 1", "feed(-1, 8) = 9", "text() = -100");
        run("feed(32, 1) = 1", "feed(-224, 2) = 3", "text() = -101");
    }

    private static void feedAnswers() {
        check.says("how many it has. BAD: n not 1 .. 8; FULL.");
        Run x = run().all(-2, "feed(32, 0)", "feed(32, -1)", "feed(32, MIN)", "feed(32, 9)", "feed(32, MAX)").rows("count(7) = 0",
            "feed(32, 1) = 1", "feed(0, 8) = 9");
        for (int n = 2; n <= 19; n++) {
            x.rows("feed(0, 8) = " + (1 + 8 * n));
        }
        x.rows("feed(0, 8) = FULL", "count(7) = 153", "feed(0, 7) = 160", "feed(0, 1) = FULL", "feed(0, 8) = FULL")
            .all(-2, "feed(0, 0)", "feed(0, 9)", "feed(0, -1)", "feed(0, MAX)").rows("count(7) = 160");
        run().tape(" ".repeat(152)).rows("feed(0, 9) = BAD", "feed(0, 8) = 160", "feed(0, 1) = FULL");
        run().tape(" ".repeat(156)).rows("feed(0, 5) = FULL", "feed(0, 4) = 160");
    }

    private static void textAnswers() {
        check.says("THE TAPE, which is empty then (by a FAULT, too), is a TEXT: its number; -100 less the place of its FAULT. "
            + "FULL (ahead of the FAULT; then THE TAPE stays).");
        Run x = run("text() = -100", "count(7) = 0").tape("take 1;call").rows("count(7) = 11", "text() = -111", "count(7) = 0",
            "text() = -100").tape(SHORT).rows("text() = 1", "count(7) = 0");
        for (int t = 2; t < 6; t++) {
            x.tape("oh").rows("text() = -100").tape(SHORT).rows("text() = " + t);
        }
        x.rows("text() = FULL").tape("oh").rows("text() = FULL", "count(7) = 2").tape("1".repeat(158)).rows("count(7) = 160",
            "text() = FULL", "count(7) = 160", "feed(0, 1) = FULL");
    }

    private static void forceAnswers() {
        check.says("A TEXT is THE RULE: which was. BAD.");
        run().all(-2, "force(-1)", "force(1)", "force(MIN)", "force(MAX)", "force(6)").rows("force(0) = 0").tape(SHORT)
            .rows("text() = 1", "count(6) = 0", "force(2) = BAD", "force(1) = 0", "force(1) = 1", "force(2) = BAD", "force(-1) = BAD",
                "count(6) = 1", "force(0) = 1", "count(6) = 0");
    }

    private static void lawAnswers() {
        check.says("What a part (0 take, 1 call) of THE RULE comes to for a CARD, as KNOWN. NO: none such.");
        long no = DrumWorld.NO;
        Run x = run("drum(0, 0, 0)", "shake(0, 0, 0)", "law(0, 0, 0) = NO", "card(0, 0, 0, 0)").rule("take 5;call 7;");
        x.rows("law(0, 0, 0) = 5", "law(0, 1, 0) = 7", "days(1)", "law(0, 0, 1) = 5", "wrong(0, 1)", "law(0, 1, 1) = 7");
        x.all(no, "law(-1, 0, 0)", "law(1, 0, 0)", "law(MIN, 0, 0)", "law(MAX, 0, 0)", "law(40, 0, 0)", "law(0, -1, 0)",
            "law(0, 2, 0)", "law(0, MIN, 0)", "law(0, MAX, 0)", "law(0, 0, -1)", "law(0, 0, 2)", "law(0, 0, MIN)", "law(0, 0, MAX)");
    }
}
