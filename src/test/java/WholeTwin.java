import java.util.ArrayList;
import java.util.Arrays;
import java.util.List;
import java.util.function.BooleanSupplier;

/**
 * The whole face by the plainer telling: each call looks at its refusals in the document's order, and
 * then does what its promise says. Numbers go in as longs, as a Run would make them.
 */
final class WholeTwin extends Twin {
    private static final int BAD = -2, STATE = -3, FULL = -4;
    private static final long NO = -4611686018427387904L;

    /** What an image keeps. */
    private static final class Picture {
        final List<int[]> slows = new ArrayList<>();
        final List<Integer> drifts = new ArrayList<>();
        final List<int[]> shakes = new ArrayList<>();
        final List<Boolean> wrong = new ArrayList<>();
    }

    int day;
    String tape = "";
    private final List<String> texts = new ArrayList<>(List.of(RULES[0]));
    private final long[] refitFound = new long[3];
    private int watchFound;
    private Picture picture;
    final int[][] sheets = new int[4][];
    private final int[] sorts = new int[4];

    private static boolean in(long v, long least, long most) {
        return least <= v && v <= most;
    }

    private static <T> boolean has(List<T> all, long i) {
        return in(i, 0, all.size() - 1);
    }

    /** The refusal of the first of these that is so, or 0: numbers and questions by turns. */
    private static long refusal(Object... turns) {
        for (int i = 0; i < turns.length; i += 2) {
            if (((BooleanSupplier) turns[i + 1]).getAsBoolean()) {
                return ((Number) turns[i]).longValue();
            }
        }
        return 0;
    }

    private static BooleanSupplier not(BooleanSupplier is) {
        return () -> !is.getAsBoolean();
    }

    private static BooleanSupplier when(BooleanSupplier is) {
        return is;
    }

    long call(String name, long... n) {
        switch (name) {
            case "shell": return shell(n[0], n[1], n[2]);
            case "pace": return pace(n[0], n[1], n[2]);
            case "due": return dueOf(n[0], n[1], n[2]);
            case "shadow": return shadow(n[0], n[1]);
            case "drum": return drum(n[0], n[1], n[2]);
            case "clock": return clock(n[0], n[1]);
            case "shake": return shake(n[0], n[1], n[2]);
            case "days": return days(n[0]);
            case "card": return card(n[0], n[1], n[2], n[3]);
            case "mend": return mend(n[0], n[1]);
            case "wrong": return wrong(n[0], n[1]);
            case "cardTold": return cardTold(n[0], n[1], n[2]);
            case "feed": return feed(n[0], n[1]);
            case "text": return text();
            case "force": return force(n[0]);
            case "law": return lawOf(n[0], n[1], n[2]);
            default: return placing(name, n);
        }
    }

    private long placing(String name, long... n) {
        switch (name) {
            case "place": return placeOf(n[0], n[1], n[2]);
            case "settle": return settle(n[0], n[1]);
            case "table": return tableOf(n[0], n[1], n[2], n[3]);
            case "refit": return refitBy(n[0], n[1]);
            case "refitTold": return in(n[0], 0, 2) ? refitFound[(int) n[0]] : -5;
            case "called": return calledAs(n[0], n[1], n[2]);
            case "strange": return in(n[0], 0, day) ? strange((int) n[0]) : BAD;
            case "watch": return watchBy(n[0], n[1], n[2]);
            case "watched": return watchFound;
            case "shakeTold": return shakeTold(n[0], n[1]);
            case "count": return count(n[0]);
            case "image": return image();
            case "back": return back();
            default: return host(name, n);
        }
    }

    private long host(String name, long... n) {
        switch (name) {
            case "sheet": return sheet(n[0], n[1], n[2]);
            case "cell": return cell(n[0], n[1], n[2]);
            case "copy": return copy(n[0], n[1], n[2], n[3], n[4]);
            case "cards": return cards(n[0], n[1], n[2], n[3]);
            case "taken": return taken(n[0], n[1]);
            default: throw new IllegalArgumentException(name);
        }
    }

    // ---- the ball

    private static boolean isSlow(long sort, long v) {
        return sort == 0 && in(v, 1, 99) || sort == 1 && in(v, 0, 99);
    }

    private long shell(long thick, long push, long sway) {
        long r = refusal(
            BAD, not(() -> in(thick, 1, 200) && isSlow(0, push) && isSlow(1, sway)),
            STATE, when(() -> shells.stream().mapToLong(s -> s.thick).sum() + thick > 590),
            FULL, when(() -> shells.size() == 5));
        if (r == 0) {
            Shell shell = new Shell();
            shell.thick = (int) thick;
            shell.slow[0] = (int) push;
            shell.slow[1] = (int) sway;
            shells.add(shell);
        }
        return r != 0 ? r : shells.size() - 1;
    }

    private long pace(long k, long sort, long v) {
        long r = refusal(NONE, not(() -> has(shells, k)), BAD, not(() -> isSlow(sort, v)));
        if (r != 0) {
            return r;
        }
        int[] slow = shells.get((int) k).slow;
        int was = slow[(int) sort];
        slow[(int) sort] = (int) v;
        return was;
    }

    private long dueOf(long kind, long far, long depth) {
        long r = refusal(-5, not(() -> in(kind, 0, 5)), BAD, not(() -> in(far, 0, 180) && in(depth, 0, 99)));
        return r != 0 ? r : due((int) kind, (int) far, (int) depth);
    }

    private long shadow(long sort, long what) {
        if (!in(sort, 0, 1) || !in(what, 0, 1)) {
            return -5;
        }
        StringBuilder comes = new StringBuilder();
        for (int far = 0; far <= 180; far++) {
            comes.append(least((int) sort, far) == NONE ? '-' : '+');
        }
        int from = comes.indexOf("-");
        int next = comes.indexOf("+", Math.max(0, from));
        return from < 0 || what == 0 ? from : next < 0 ? 180 : next - 1;
    }

    // ---- drums, shakes, cards

    private long drum(long at, long drift, long noise) {
        long r = refusal(BAD, not(() -> in(at, 0, 359) && in(drift, -99, 99) && in(noise, 0, 9)),
            FULL, when(() -> drums.size() == 8));
        if (r == 0) {
            Drum drum = new Drum();
            drum.place = (int) at;
            drum.drift = (int) drift;
            drum.noise = (int) noise;
            drums.add(drum);
        }
        return r != 0 ? r : drums.size() - 1;
    }

    private long clock(long d, long drift) {
        long r = refusal(-1000, not(() -> has(drums, d)), -2000, not(() -> in(drift, -99, 99)));
        if (r != 0) {
            return r;
        }
        int was = drums.get((int) d).drift;
        drums.get((int) d).drift = (int) drift;
        return was;
    }

    private long shake(long at, long deep, long hour) {
        long r = refusal(BAD, not(() -> in(at, 0, 359) && in(deep, 0, 99) && in(hour, 0, 9999999)),
            FULL, when(() -> shakes.size() == 6));
        if (r == 0) {
            Shake shake = new Shake();
            shake.place = (int) at;
            shake.depth = (int) deep;
            shake.hour = (int) hour;
            shakes.add(shake);
        }
        return r != 0 ? r : shakes.size() - 1;
    }

    private long days(long n) {
        long r = refusal(BAD, not(() -> in(n, 1, 100)), FULL, when(() -> day + n > 999));
        day += r == 0 ? (int) n : 0;
        return r != 0 ? r : day;
    }

    private long card(long kind, long d, long s, long time) {
        long r = refusal(NONE, not(() -> has(drums, d) && has(shakes, s)),
            BAD, not(() -> in(kind, 0, 5) && in(time, 0, 9999999)), FULL, when(() -> cards.size() == 40));
        if (r == 0) {
            Card card = new Card();
            card.kind = (int) kind;
            card.drum = drums.get((int) d);
            card.shake = shakes.get((int) s);
            card.time = (int) time;
            card.day = day;
            cards.add(card);
        }
        return r != 0 ? r : cards.size() - 1;
    }

    private long mend(long c, long time) {
        long r = refusal(NONE, not(() -> has(cards, c)), BAD, not(() -> in(time, 0, 9999999)),
            STATE, when(() -> cards.get((int) c).mended >= 0));
        if (r != 0) {
            return r;
        }
        cards.get((int) c).mended = (int) time;
        cards.get((int) c).mendDay = day;
        return cards.get((int) c).time;
    }

    private long wrong(long c, long is) {
        long r = refusal(NONE, not(() -> has(cards, c)), BAD, not(() -> in(is, 0, 1)));
        if (r != 0) {
            return r;
        }
        boolean was = cards.get((int) c).wrong;
        cards.get((int) c).wrong = is == 1;
        return was ? 1 : 0;
    }

    private long cardTold(long c, long what, long known) {
        long r = refusal(-1000000000, not(() -> has(cards, c)), -1000000001, not(() -> in(known, 0, day)),
            -1000000002, not(() -> in(what, 0, 6)));
        if (r != 0) {
            return r;
        }
        Card card = cards.get((int) c);
        return new long[] {card.kind, drums.indexOf(card.drum), shakes.indexOf(card.shake), timeKnown(card, (int) known),
            late(card, card.kind, (int) known), card.day, card.wrong ? 1 : 0}[(int) what];
    }

    // ---- rules

    private long feed(long w, long n) {
        long r = refusal(BAD, not(() -> in(n, 1, 8)), FULL, when(() -> tape.length() + n > 160));
        if (r == 0) {
            StringBuilder bytes = new StringBuilder();
            for (int i = 0; i < n; i++) {
                bytes.insert(0, (char) (w >>> 8 * i & 0xff));
            }
            tape += bytes;
        }
        return r != 0 ? r : tape.length();
    }

    private long text() {
        if (texts.size() == 6) {
            return FULL;
        }
        String fed = tape;
        tape = "";
        TextTwin read = new TextTwin(fed, new int[6]);
        if (!read.isText) {
            return -100 - read.fault;
        }
        texts.add(fed);
        return texts.size() - 1;
    }

    private long force(long t) {
        if (!has(texts, t)) {
            return BAD;
        }
        int was = rule;
        rule = (int) t;
        return was;
    }

    /** The rule is read anew for each card: names are numbers to this reader. */
    @Override
    long law(Card c, int part, int known) {
        int late = late(c, c.kind, known);
        int[] values = {late == NEVER ? 9999 : Math.min(9999, Math.abs(late)), apart(c.drum.place, c.shake.place),
            c.kind, c.drum.noise, c.drum.drift, c.shake.depth};
        TextTwin read = new TextTwin(texts.get(rule), values);
        return part == 0 ? read.take : read.call;
    }

    private long lawOf(long c, long part, long known) {
        boolean is = has(cards, c) && in(part, 0, 1) && in(known, 0, day);
        return is ? law(cards.get((int) c), (int) part, (int) known) : NO;
    }

    // ---- placing, tables

    private long placeOf(long s, long known, long what) {
        long r = refusal(NO, not(() -> has(shakes, s)), BAD, not(() -> in(known, 0, day) && in(what, 0, 3)),
            STATE, when(() -> place(shakes.get((int) s), (int) known) == null));
        return r != 0 ? r : place(shakes.get((int) s), (int) known)[(int) what];
    }

    private long settle(long s, long known) {
        long r = refusal(NO, not(() -> has(shakes, s)), NO + 1, not(() -> in(known, 0, day)),
            NO + 2, when(() -> place(shakes.get((int) s), (int) known) == null));
        if (r != 0) {
            return r;
        }
        Shake shake = shakes.get((int) s);
        long[] found = place(shake, (int) known);
        int was = shake.hour;
        shake.place = (int) found[0];
        shake.depth = (int) found[1];
        shake.hour = found[2] < 0 ? 0 : found[2] > 9999999 ? 9999999 : (int) found[2];
        return shake.hour - was;
    }

    private long tableOf(long sort, long bin, long known, long part) {
        boolean is = in(sort, 0, 1) && in(bin, 0, 17) && in(known, 0, day) && in(part, 0, 1);
        return is ? table((int) sort, (int) bin, (int) known, (int) part) : NO;
    }

    private long refitBy(long known, long cap) {
        if (!in(known, 0, day) || !in(cap, 1, 99999)) {
            return NO;
        }
        long[] found = refit((int) known, (int) cap);
        System.arraycopy(found, 1, refitFound, 0, 3);
        return found[0];
    }

    private long calledAs(long c, long off, long known) {
        long r = refusal(-5, not(() -> has(cards, c)), BAD, not(() -> in(off, 0, 99999) && in(known, 0, day)));
        return r != 0 ? r : called(cards.get((int) c), (int) off, (int) known);
    }

    private long watchBy(long s, long most, long far) {
        long r = refusal(-5, not(() -> in(s, 0, 3)), -11, when(() -> sheets[(int) s] == null),
            BAD, not(() -> in(most, 0, 8) && in(far, 0, 180)
                && Arrays.stream(sheets[(int) s]).allMatch(number -> in(number, 0, 359))));
        if (r != 0) {
            return r;
        }
        int[] found = watch(sheets[(int) s], (int) most, (int) far);
        watchFound = found[1];
        return found[0];
    }

    private long shakeTold(long s, long what) {
        long r = refusal(-5, not(() -> has(shakes, s)), -7, not(() -> in(what, 0, 2)));
        if (r != 0) {
            return r;
        }
        Shake shake = shakes.get((int) s);
        return new int[] {shake.place, shake.depth, shake.hour}[(int) what];
    }

    private long count(long what) {
        int[] all = {day, shells.size(), drums.size(), shakes.size(), cards.size(), texts.size(), rule, tape.length()};
        return in(what, 0, 7) ? all[(int) what] : BAD;
    }

    private long image() {
        picture = new Picture();
        shells.forEach(s -> picture.slows.add(s.slow.clone()));
        drums.forEach(d -> picture.drifts.add(d.drift));
        shakes.forEach(s -> picture.shakes.add(new int[] {s.place, s.depth, s.hour}));
        cards.forEach(c -> picture.wrong.add(c.wrong));
        return day;
    }

    private long back() {
        if (picture == null) {
            return STATE;
        }
        for (int k = 0; k < picture.slows.size(); k++) {
            shells.get(k).slow[0] = picture.slows.get(k)[0];
            shells.get(k).slow[1] = picture.slows.get(k)[1];
        }
        for (int d = 0; d < picture.drifts.size(); d++) {
            drums.get(d).drift = picture.drifts.get(d);
        }
        for (int s = 0; s < picture.shakes.size(); s++) {
            shakes.get(s).place = picture.shakes.get(s)[0];
            shakes.get(s).depth = picture.shakes.get(s)[1];
            shakes.get(s).hour = picture.shakes.get(s)[2];
        }
        for (int c = 0; c < picture.wrong.size(); c++) {
            cards.get(c).wrong = picture.wrong.get(c);
        }
        return day;
    }

    // ---- the host

    private long sheet(long s, long sort, long n) {
        long r = refusal(BAD, not(() -> in(s, 0, 3) && in(sort, -1, 2) && (sort == -1 || n <= 40)),
            -14, when(() -> sort != -1 && n < 0));
        if (r == 0) {
            sheets[(int) s] = sort == -1 ? null : new int[(int) n];
            sorts[(int) s] = (int) sort;
        }
        return r != 0 ? r : 1;
    }

    private long cell(long s, long i, long v) {
        long r = refusal(BAD, not(() -> in(s, 0, 3)), -11, when(() -> sheets[(int) s] == null),
            -12, not(() -> in(i, 0, sheets[(int) s].length - 1)));
        if (r == 0) {
            int sort = sorts[(int) s];
            sheets[(int) s][(int) i] = sort == 0 ? (byte) v : sort == 1 ? (short) v : (int) v;
        }
        return r != 0 ? r : 1;
    }

    private long copy(long s, long i, long other, long j, long n) {
        long r = refusal(BAD, not(() -> in(s, 0, 3) && in(other, 0, 3)),
            -11, when(() -> sheets[(int) s] == null || sheets[(int) other] == null),
            -13, when(() -> sorts[(int) s] != sorts[(int) other]),
            -12, when(() -> n < 0 || i < 0 || j < 0 || i + n > sheets[(int) s].length
                || j + n > sheets[(int) other].length));
        if (r != 0) {
            return r;
        }
        int[] were = sheets[(int) s].clone();
        for (int k = 0; k < n; k++) {
            sheets[(int) other][(int) j + k] = were[(int) i + k];
        }
        return n;
    }

    private long cards(long s, long sort, long from, long n) {
        long r = refusal(BAD, not(() -> in(s, 0, 3) && in(sort, 0, 2) && in(n, 0, 10)),
            -11, when(() -> sheets[(int) s] == null), -13, when(() -> sorts[(int) s] != sort));
        if (r != 0) {
            return r;
        }
        int[] row = sheets[(int) s];
        int came = 0;
        for (long at = from; at < from + 4 * n; at += 4) {
            if (at < 0 || at + 4 > row.length) {
                return -12;
            }
            int k = (int) at;
            came += card(row[k], row[k + 1], row[k + 2], row[k + 3]) >= 0 ? 1 : 0;
        }
        return came;
    }

    private long taken(long c, long kind) {
        String[] kinds = {"0", "10", "20", "320", "410", "520"};
        return refusalOr(c, BAD, not(() -> in(kind, 0, 5)), -12, not(() -> in(c, 0, 39)), -11, not(() -> has(cards, c)),
            -13, not(() -> kinds[cards.get((int) c).kind].contains("" + kind)));
    }

    private static long refusalOr(long answer, Object... turns) {
        long r = refusal(turns);
        return r != 0 ? r : answer;
    }
}
