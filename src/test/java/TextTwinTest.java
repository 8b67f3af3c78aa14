import java.util.Random;

/** Made-up texts, whole and broken, against a second reader that reckons while it reads. */
public final class TextTwinTest {
    private static final Check check = new Check("TextTwinTest");
    private static final String[] PIECES = {"take", "call", "or", "and", "not", "late", "far", "kind", "noise",
        "drift", "depth", "(", ")", ";", "+", "-", "*", "<", "=", "1", "0", "77", "9999", "10000", "lat", "?", "A"};

    public static void main(String[] args) {
        int read = 0;
        for (int seed = 0; seed < 6000 && check.wrongSoFar() < 20; seed++) {
            Random random = new Random(seed);
            String text = madeUp(random);
            if (random.nextInt(3) > 0) {
                text = broken(text, random);
            }
            read += ask(text) ? 1 : 0;
        }
        check.holds("many are read", read > 1000);
        check.holds("many are not", read < 5000);
        check.close();
    }

    /** A world with one card, whose names are all other numbers. */
    private static DrumWorld world() {
        DrumWorld x = new DrumWorld();
        x.shell(100, 10, 20);
        x.drum(10, -5, 3);
        x.shake(340, 47, 1000);
        x.card(1, 0, 0, 5000);
        return x;
    }

    private static boolean ask(String text) {
        int[] values = {5000 + 5 - 1000 - (3600 - 47), 30, 1, 3, -5, 47};
        TextTwin twin = new TextTwin(text, values);
        DrumWorld x = world();
        int got = Check.text(x, text);
        check.due("\"" + text + "\"", got, twin.isText ? 1 : -100 - twin.fault);
        x.force(1);
        if (got == 1 && twin.isText) {
            check.due("\"" + text + "\", take", x.law(0, 0, 0), twin.take);
            check.due("\"" + text + "\", call", x.law(0, 1, 0), twin.call);
        }
        return twin.isText;
    }

    static String madeUp(Random random) {
        String text;
        do {
            text = "take " + e(random, 0, 5) + ";" + gap(random) + "call " + e(random, 0, 5) + gap(random) + ";";
        } while (text.length() > 160);
        return text;
    }

    private static String gap(Random random) {
        return new String[] {"", " ", "\n", "  "}[random.nextInt(4)];
    }

    /** One of any level: 0 or, 1 and, 2 not, 3 compared, 4 sum, 5 term, 6 one. */
    private static String e(Random random, int level, int room) {
        if (level == 6) {
            return one(random, room);
        }
        if (level == 2) {
            boolean is = random.nextInt(5) == 0;
            return is ? "not " + e(random, 2, room - 1) : e(random, 3, room);
        }
        String[] signs = {" or ", " and ", "", "<=", "+-", "*"};
        StringBuilder all = new StringBuilder(e(random, level + 1, room));
        int more = random.nextInt(4) == 0 ? 1 + (level == 3 ? 0 : random.nextInt(2)) : 0;
        for (int n = 0; n < more; n++) {
            String sign = signs[level];
            all.append(level < 2 ? sign : "" + sign.charAt(random.nextInt(sign.length())));
            all.append(gap(random)).append(e(random, level + 1, room));
        }
        return all.toString();
    }

    private static String one(Random random, int room) {
        int which = random.nextInt(room < -1 ? 4 : 8);
        if (which < 2) {
            return "" + random.nextInt(which == 0 ? 3 : 10000);
        }
        if (which < 4) {
            return TextTwin.NAMES[random.nextInt(6)];
        }
        if (which == 4) {
            return "-" + gap(random) + one(random, room - 1);
        }
        return which == 5 ? "(" + e(random, 0, room - 1) + ")" : "" + random.nextInt(9);
    }

    static String broken(String text, Random random) {
        StringBuilder made = new StringBuilder(text);
        int at = random.nextInt(text.length() + 1);
        switch (random.nextInt(4)) {
            case 0: made.setLength(at); break;
            case 1: made.insert(at, PIECES[random.nextInt(PIECES.length)]); break;
            case 2: made.insert(at, " " + PIECES[random.nextInt(PIECES.length)] + " "); break;
            default: made.delete(at, Math.min(text.length(), at + 1 + random.nextInt(3)));
        }
        made.setLength(Math.min(160, made.length()));
        return made.toString();
    }
}
