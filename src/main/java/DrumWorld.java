/**
 * A shadow inside the earth: a ball of shells with paces for two sorts of going, and what is due of
 * a shake at a drum through it; drums, shakes and the cards that tell of them; rules in texts;
 * shakes placed anew, tables, refits, watches; images; and rows of numbers for the host.
 */
public final class DrumWorld {
    public static final int NONE = -1, BAD = -2, STATE = -3, FULL = -4;
    public static final long NO = -4611686018427387904L;

    private static final int NO_SUCH = -5, NO_WHAT = -7, FAULT = -100;
    private static final int NO_DRUM = -1000, NO_DRIFT = -2000;
    private static final int NO_CARD = -1000000000, NO_DAY = -1000000001, NO_PART = -1000000002;
    private static final int MISSING = -11, OUTSIDE = -12, UNLIKE = -13, BELOW_ZERO = -14;

    /** What stands for a time that is due to nobody; what is due is never below 0. */
    private static final int NOTHING = -1;
    private static final int NEVER = 1000000000;

    private static final int RING = 360, HALF_RING = 180, MOST_DEPTH = 99, MOST_TIME = 9999999;
    private static final int MOST_DRUMS = 8, MOST_SHAKES = 6, MOST_CARDS = 40, MOST_TEXTS = 6, SHEETS = 4;
    private static final int MOST_DRIFT = 99, MOST_NOISE = 9, MOST_DAY = 999, MOST_OFF = 99999;
    private static final int LAST_BIN = 17;
    private static final int MOST_LATE_IN_TEXT = 9999;

    private static final String FIRST_RULE =
        "take late < 50 and noise < 4 ; call far < 100 or 4 = kind ;";

    private final Ball ball = new Ball();
    private final Drum[] drums = new Drum[MOST_DRUMS];
    private final Shake[] shakes = new Shake[MOST_SHAKES];
    private final Card[] cards = new Card[MOST_CARDS];
    private int drumCount, shakeCount, cardCount;
    private int day;

    private final Reader reader = new Reader();
    private final Tape tape = reader.tape;
    private final Text[] texts = new Text[MOST_TEXTS];
    private int textCount;
    private int rule;
    private final int[] facts = new int[Tape.NAMES];

    private final Placing placing = new Placing();
    private final int[] refitFound = new int[3];
    private final int[] nearDrums = new int[Sheet.MOST];
    private int watchFound;

    private final Image kept = new Image();
    private final Sheet[] sheets = new Sheet[SHEETS];

    public DrumWorld() {
        for (int s = 0; s < SHEETS; s++) {
            sheets[s] = new Sheet();
        }
        tape.appendAll(FIRST_RULE);
        texts[0] = reader.readText();
        textCount = 1;
        tape.clear();
    }

    // ---- the ball

    public int shell(int thickness, int push, int sway) {
        if (!isIn(thickness, 1, Ball.MOST_THICK)
            || !Ball.isSlow(Ball.PUSH, push) || !Ball.isSlow(Ball.SWAY, sway)) {
            return BAD;
        }
        if (ball.allThick() + thickness > Ball.MOST_ALL_THICK) {
            return STATE;
        }
        return ball.isFull() ? FULL : ball.addShell(thickness, push, sway);
    }

    public int pace(int k, int sort, int v) {
        if (!ball.hasShell(k)) {
            return NONE;
        }
        return Ball.isSort(sort) && Ball.isSlow(sort, v) ? ball.putSlow(k, sort, v) : BAD;
    }

    public int due(int kind, int far, int depth) {
        if (!Kinds.isKind(kind)) {
            return NO_SUCH;
        }
        if (!isIn(far, 0, HALF_RING) || !isIn(depth, 0, MOST_DEPTH)) {
            return BAD;
        }
        int found = ball.dueOf(kind, far, depth);
        return found == NOTHING ? NONE : found;
    }

    public int shadow(int sort, int what) {
        if (!Ball.isSort(sort) || !isIn(what, 0, 1)) {
            return NO_SUCH;
        }
        int from = 0;
        while (from <= HALF_RING && ball.least(sort, from) != NOTHING) {
            from++;
        }
        if (from > HALF_RING) {
            return NONE;
        }
        int to = from;
        while (to < HALF_RING && ball.least(sort, to + 1) == NOTHING) {
            to++;
        }
        return what == 0 ? from : to;
    }

    // ---- drums, shakes, cards

    public int drum(int at, int drifts, int noisy) {
        if (!isPlace(at) || !isDrift(drifts) || !isIn(noisy, 0, MOST_NOISE)) {
            return BAD;
        }
        if (drumCount >= MOST_DRUMS) {
            return FULL;
        }
        drums[drumCount] = new Drum(drumCount, at, drifts, noisy);
        return drumCount++;
    }

    public int clock(int d, int drifts) {
        Drum drum = drumAt(d);
        if (drum == null) {
            return NO_DRUM;
        }
        if (!isDrift(drifts)) {
            return NO_DRIFT;
        }
        int was = drum.drift;
        drum.drift = drifts;
        return was;
    }

    public int shake(int at, int deep, int hour) {
        if (!isPlace(at) || !isIn(deep, 0, MOST_DEPTH) || !isTime(hour)) {
            return BAD;
        }
        if (shakeCount >= MOST_SHAKES) {
            return FULL;
        }
        shakes[shakeCount] = new Shake(shakeCount, at, deep, hour);
        return shakeCount++;
    }

    public int days(int n) {
        if (!isIn(n, 1, 100)) {
            return BAD;
        }
        if (day + n > MOST_DAY) {
            return FULL;
        }
        day += n;
        return day;
    }

    public int card(int kind, int d, int s, int time) {
        Drum drum = drumAt(d);
        Shake shake = shakeAt(s);
        if (drum == null || shake == null) {
            return NONE;
        }
        if (!Kinds.isKind(kind) || !isTime(time)) {
            return BAD;
        }
        if (cardCount >= MOST_CARDS) {
            return FULL;
        }
        cards[cardCount] = new Card(kind, drum, shake, time, day);
        return cardCount++;
    }

    public int mend(int c, int time) {
        Card card = cardAt(c);
        if (card == null) {
            return NONE;
        }
        if (!isTime(time)) {
            return BAD;
        }
        if (card.isMended) {
            return STATE;
        }
        card.isMended = true;
        card.mendedTime = time;
        card.mendedDay = day;
        return card.toldTime;
    }

    public int wrong(int c, int is) {
        Card card = cardAt(c);
        if (card == null) {
            return NONE;
        }
        if (!isIn(is, 0, 1)) {
            return BAD;
        }
        int was = card.isWrong ? 1 : 0;
        card.isWrong = is == 1;
        return was;
    }

    public int cardTold(int c, int what, int known) {
        Card card = cardAt(c);
        if (card == null) {
            return NO_CARD;
        }
        if (!isDay(known)) {
            return NO_DAY;
        }
        switch (what) {
            case 0: return card.kind;
            case 1: return card.drum.number;
            case 2: return card.shake.number;
            case 3: return card.timeAsKnown(known);
            case 4: return lateness(card, card.kind, known);
            case 5: return card.toldDay;
            case 6: return card.isWrong ? 1 : 0;
            default: return NO_PART;
        }
    }

    // ---- rules

    public int feed(long w, int n) {
        if (!isIn(n, 1, 8)) {
            return BAD;
        }
        return tape.append(w, n) ? tape.size : FULL;
    }

    public int text() {
        if (textCount >= MOST_TEXTS) {
            return FULL;
        }
        Text read = reader.readText();
        tape.clear();
        if (read == null) {
            return FAULT - reader.stoppedAt();
        }
        texts[textCount] = read;
        return textCount++;
    }

    public int force(int t) {
        if (!isIn(t, 0, textCount - 1)) {
            return BAD;
        }
        int was = rule;
        rule = t;
        return was;
    }

    public long law(int c, int part, int known) {
        Card card = cardAt(c);
        if (card == null || !isIn(part, 0, 1) || !isDay(known)) {
            return NO;
        }
        return ruleSays(card, part, lateness(card, card.kind, known));
    }

    // ---- placing, tables

    public long place(int s, int known, int what) {
        Shake shake = shakeAt(s);
        if (shake == null) {
            return NO;
        }
        if (!isDay(known) || !isIn(what, 0, 3)) {
            return BAD;
        }
        if (!findPlacing(s, known)) {
            return STATE;
        }
        switch (what) {
            case 0: return placing.bestPlace;
            case 1: return placing.bestDepth;
            case 2: return placing.bestHour;
            default: return placing.bestOff;
        }
    }

    public long settle(int s, int known) {
        Shake shake = shakeAt(s);
        if (shake == null) {
            return NO;
        }
        if (!isDay(known)) {
            return NO + 1;
        }
        if (!findPlacing(s, known)) {
            return NO + 2;
        }
        int was = shake.hour;
        shake.place = placing.bestPlace;
        shake.depth = placing.bestDepth;
        shake.hour = Math.max(0, Math.min(MOST_TIME, placing.bestHour));
        return shake.hour - was;
    }

    public long table(int sort, int bin, int known, int part) {
        if (!Ball.isSort(sort) || !isIn(bin, 0, LAST_BIN) || !isDay(known) || !isIn(part, 0, 1)) {
            return NO;
        }
        long all = 0;
        int many = 0;
        for (int c = 0; c < cardCount; c++) {
            Card card = cardAt(c);
            int late = isHeard(card, known) && standsInTable(card, sort, bin)
                ? lateness(card, card.kind, known) : NEVER;
            if (late != NEVER && ruleSays(card, 0, late) != 0) {
                all += late;
                many++;
            }
        }
        int divisor = commonDivisor(all, many);
        return part == 0 ? all / divisor : Math.max(1, many) / divisor;
    }

    public long refit(int known, int cap) {
        if (!isDay(known) || !isIn(cap, 1, MOST_OFF)) {
            return NO;
        }
        long least = allOff(known, cap);
        keepRefit(-1, -1, -1);
        for (int k = 0; k < ball.shells; k++) {
            least = refitOne(k, Ball.PUSH, known, cap, least);
            least = refitOne(k, Ball.SWAY, known, cap, least);
        }
        return least;
    }

    public int refitTold(int what) {
        return isIn(what, 0, 2) ? refitFound[what] : NO_SUCH;
    }

    public int called(int c, int off, int known) {
        Card card = cardAt(c);
        if (card == null) {
            return NO_SUCH;
        }
        if (!isIn(off, 0, MOST_OFF) || !isDay(known)) {
            return BAD;
        }
        int bits = 0;
        for (int kind = 0; kind < Kinds.ALL; kind++) {
            int late = lateness(card, kind, known);
            if (late != NEVER && Math.abs(late) <= off) {
                bits |= 1 << kind;
            }
        }
        return bits;
    }

    public int strange(int known) {
        if (!isDay(known)) {
            return BAD;
        }
        int many = 0;
        for (int c = 0; c < cardCount; c++) {
            Card card = cardAt(c);
            if (isHeard(card, known) && lateness(card, card.kind, known) == NEVER) {
                many++;
            }
        }
        return many;
    }

    public int watch(int sheet, int most, int far) {
        Sheet row = sheetAt(sheet);
        if (row == null) {
            return NO_SUCH;
        }
        if (row.isMissing()) {
            return MISSING;
        }
        if (!isIn(most, 0, MOST_DRUMS) || !isIn(far, 0, HALF_RING) || !holdsPlacesOnly(row)) {
            return BAD;
        }
        tellNearDrums(row, far);
        int best = 0;
        watchFound = 0;
        for (int set = 1; set < 1 << drumCount; set++) {
            int near = Integer.bitCount(set) <= most ? howManyNear(row.size, set) : 0;
            if (near > best) {
                best = near;
                watchFound = set;
            }
        }
        return best;
    }

    public int watched() {
        return watchFound;
    }

    public int shakeTold(int s, int what) {
        Shake shake = shakeAt(s);
        if (shake == null) {
            return NO_SUCH;
        }
        switch (what) {
            case 0: return shake.place;
            case 1: return shake.depth;
            case 2: return shake.hour;
            default: return NO_WHAT;
        }
    }

    public int count(int what) {
        switch (what) {
            case 0: return day;
            case 1: return ball.shells;
            case 2: return drumCount;
            case 3: return shakeCount;
            case 4: return cardCount;
            case 5: return textCount;
            case 6: return rule;
            case 7: return tape.size;
            default: return BAD;
        }
    }

    public int image() {
        kept.begin(drumCount, shakeCount, cardCount);
        kept.keepSlows(ball);
        for (int d = 0; d < drumCount; d++) {
            kept.keepDrift(drumAt(d));
        }
        for (int s = 0; s < shakeCount; s++) {
            kept.keepShake(shakeAt(s));
        }
        for (int c = 0; c < cardCount; c++) {
            kept.keepWrong(c, cardAt(c));
        }
        return day;
    }

    public int back() {
        if (!kept.isThere) {
            return STATE;
        }
        kept.bringSlows(ball);
        for (int d = 0; d < kept.drums; d++) {
            kept.bringDrift(drumAt(d));
        }
        for (int s = 0; s < kept.shakes; s++) {
            kept.bringShake(shakeAt(s));
        }
        for (int c = 0; c < kept.cards; c++) {
            kept.bringWrong(c, cardAt(c));
        }
        return day;
    }

    // ---- the host

    public int sheet(int s, int sort, int n) {
        Sheet row = sheetAt(s);
        if (row == null || !(sort == Sheet.MISSING_SORT || Sheet.isSheetSort(sort))) {
            return BAD;
        }
        if (sort == Sheet.MISSING_SORT) {
            row.vanish();
            return 1;
        }
        if (n > Sheet.MOST) {
            return BAD;
        }
        if (n < 0) {
            return BELOW_ZERO;
        }
        row.begin(sort, n);
        return 1;
    }

    public int cell(int s, int i, int v) {
        Sheet row = sheetAt(s);
        if (row == null) {
            return BAD;
        }
        if (row.isMissing()) {
            return MISSING;
        }
        if (!row.holds(i, 1)) {
            return OUTSIDE;
        }
        row.put(i, v);
        return 1;
    }

    public int copy(int s, int i, int other, int j, int n) {
        Sheet from = sheetAt(s);
        Sheet to = sheetAt(other);
        if (from == null || to == null) {
            return BAD;
        }
        if (from.isMissing() || to.isMissing()) {
            return MISSING;
        }
        if (from.sort != to.sort) {
            return UNLIKE;
        }
        if (!from.holds(i, n) || !to.holds(j, n)) {
            return OUTSIDE;
        }
        System.arraycopy(from.numbers, i, to.numbers, j, n);
        return n;
    }

    public int cards(int s, int sort, int from, int n) {
        Sheet row = sheetAt(s);
        if (row == null || !Sheet.isSheetSort(sort) || !isIn(n, 0, 10)) {
            return BAD;
        }
        if (row.isMissing()) {
            return MISSING;
        }
        if (row.sort != sort) {
            return UNLIKE;
        }
        int came = 0;
        for (int k = 0; k < n; k++) {
            int i = from + 4 * k;
            if (!row.holds(i, 4)) {
                return OUTSIDE;
            }
            int[] told = row.numbers;
            if (card(told[i], told[i + 1], told[i + 2], told[i + 3]) >= 0) {
                came++;
            }
        }
        return came;
    }

    public int taken(int c, int kind) {
        if (!Kinds.isKind(kind)) {
            return BAD;
        }
        if (!isIn(c, 0, MOST_CARDS - 1)) {
            return OUTSIDE;
        }
        Card card = cardAt(c);
        if (card == null) {
            return MISSING;
        }
        return Kinds.isOneOf(card.kind, kind) ? c : UNLIKE;
    }

    // ---- what may be asked for

    private static boolean isIn(int v, int least, int most) {
        return v >= least && v <= most;
    }

    private static boolean isPlace(int v) {
        return isIn(v, 0, RING - 1);
    }

    private static boolean isDrift(int v) {
        return isIn(v, -MOST_DRIFT, MOST_DRIFT);
    }

    private static boolean isTime(int v) {
        return isIn(v, 0, MOST_TIME);
    }

    private boolean isDay(int known) {
        return isIn(known, 0, day);
    }

    private Drum drumAt(int d) {
        return isIn(d, 0, drumCount - 1) ? drums[d] : null;
    }

    private Shake shakeAt(int s) {
        return isIn(s, 0, shakeCount - 1) ? shakes[s] : null;
    }

    private Card cardAt(int c) {
        return isIn(c, 0, cardCount - 1) ? cards[c] : null;
    }

    private Sheet sheetAt(int s) {
        return isIn(s, 0, SHEETS - 1) ? sheets[s] : null;
    }

    // ---- how late cards are, and what the rule says of them

    private static int apart(int a, int b) {
        int oneWay = Math.abs(a - b);
        return Math.min(oneWay, RING - oneWay);
    }

    private static boolean isHeard(Card card, int known) {
        return card != null && !card.isWrong && card.toldDay <= known;
    }

    /** How late a card is, or would be if it were of that kind. */
    private int lateness(Card card, int kind, int known) {
        int late = ball.dueOf(kind, card.far(), card.shake.depth);
        return late == NOTHING ? NEVER : card.trueTime(known) - card.shake.hour - late;
    }

    private int ruleSays(Card card, int part, int late) {
        Text text = texts[rule];
        if (text == null) {
            return 0;
        }
        facts[Tape.LATE - Tape.FIRST_NAME] = Math.min(MOST_LATE_IN_TEXT, Math.abs(late));
        facts[Tape.FAR - Tape.FIRST_NAME] = card.far();
        facts[Tape.KIND - Tape.FIRST_NAME] = card.kind;
        facts[Tape.NOISE - Tape.FIRST_NAME] = card.drum.noise;
        facts[Tape.DRIFT - Tape.FIRST_NAME] = card.drum.drift;
        facts[Tape.DEPTH - Tape.FIRST_NAME] = card.shake.depth;
        return text.comesTo(part, facts);
    }

    // ---- placing, tables, refits, watches

    private boolean findPlacing(int s, int known) {
        placing.begin();
        for (int c = 0; c < cardCount; c++) {
            Card card = cardAt(c);
            if (isHeard(card, known) && card.shake.number == s) {
                placing.addTime(card.kind, card.drum.place, card.trueTime(known));
            }
        }
        placing.search(ball);
        return placing.isFound;
    }

    private static boolean standsInTable(Card card, int sort, int bin) {
        return Kinds.sortOf(card.kind) == sort && Math.min(LAST_BIN, card.far() / 10) == bin;
    }

    private static int commonDivisor(long all, int many) {
        for (int d = many; d > 1; d--) {
            if (all % d == 0 && many % d == 0) {
                return d;
            }
        }
        return 1;
    }

    private long allOff(int known, int cap) {
        long all = 0;
        for (int c = 0; c < cardCount; c++) {
            Card card = cardAt(c);
            if (isHeard(card, known)) {
                all += Math.min(cap, Math.abs(lateness(card, card.kind, known)));
            }
        }
        return all;
    }

    /** Tries the slows of one shell and sort, and leaves the ball as it was. */
    private long refitOne(int k, int sort, int known, int cap, long leastSoFar) {
        long least = leastSoFar;
        int was = ball.slow[sort][k];
        for (int v = Ball.leastSlow(sort); v <= Ball.MOST_SLOW; v += 7) {
            ball.putSlow(k, sort, v);
            long all = allOff(known, cap);
            if (all < least) {
                least = all;
                keepRefit(k, sort, v);
            }
        }
        ball.putSlow(k, sort, was);
        return least;
    }

    private void keepRefit(int k, int sort, int v) {
        refitFound[0] = k;
        refitFound[1] = sort;
        refitFound[2] = v;
    }

    private static boolean holdsPlacesOnly(Sheet row) {
        for (int i = 0; i < row.size; i++) {
            if (!isPlace(row.numbers[i])) {
                return false;
            }
        }
        return true;
    }

    /** The drums near each number, as bits, once for all sets that are tried. */
    private void tellNearDrums(Sheet row, int far) {
        for (int i = 0; i < row.size; i++) {
            nearDrums[i] = 0;
            for (int d = 0; d < drumCount; d++) {
                Drum drum = drumAt(d);
                if (drum != null && apart(row.numbers[i], drum.place) <= far) {
                    nearDrums[i] |= 1 << d;
                }
            }
        }
    }

    private int howManyNear(int size, int set) {
        int near = 0;
        for (int i = 0; i < size; i++) {
            if ((nearDrums[i] & set) != 0) {
                near++;
            }
        }
        return near;
    }

    /** The kinds of times; each is as the kind above it, but for what is told of it alone. */
    private static final class Kinds {
        static final int TIME = 0, SWAY = 1, BACK = 2, DEEP = 3, LATE = 4, EDGE = 5, ALL = 6;

        static boolean isKind(int kind) {
            return kind >= 0 && kind < ALL;
        }

        static int sortOf(int kind) {
            return kind == SWAY || kind == LATE || kind == EDGE ? Ball.SWAY : Ball.PUSH;
        }

        static boolean isOneOf(int kind, int wanted) {
            int k = kind;
            for (int steps = 0; steps < ALL && k != wanted; steps++) {
                k = above(k);
            }
            return k == wanted;
        }

        private static int above(int kind) {
            switch (kind) {
                case DEEP: case EDGE: return BACK;
                case LATE: return SWAY;
                default: return TIME;
            }
        }
    }

    /** The shells from without to within, and what is due through them. */
    private static final class Ball {
        static final int PUSH = 0, SWAY = 1, SORTS = 2;
        static final int MOST_SHELLS = 5, MOST_THICK = 200, MOST_ALL_THICK = 590, MOST_SLOW = 99;
        private static final int RADIUS = 600, MOST_FAR_BACK = 90;

        final int[] thick = new int[MOST_SHELLS];
        final int[][] slow = new int[SORTS][MOST_SHELLS];
        int shells;

        static boolean isSort(int sort) {
            return sort == PUSH || sort == SWAY;
        }

        static int leastSlow(int sort) {
            return sort == PUSH ? 1 : 0;
        }

        static boolean isSlow(int sort, int v) {
            return v >= leastSlow(sort) && v <= MOST_SLOW;
        }

        boolean hasShell(int k) {
            return k >= 0 && k < shells;
        }

        boolean isFull() {
            return shells >= MOST_SHELLS;
        }

        int allThick() {
            int all = 0;
            for (int k = 0; k < shells; k++) {
                all += thick[k];
            }
            return all;
        }

        int addShell(int thickness, int push, int sway) {
            thick[shells] = thickness;
            slow[PUSH][shells] = push;
            slow[SWAY][shells] = sway;
            return shells++;
        }

        int putSlow(int k, int sort, int v) {
            int was = slow[sort][k];
            slow[sort][k] = v;
            return was;
        }

        int least(int sort, int far) {
            int best = NOTHING;
            int girth = RADIUS;
            int leadsDown = 0;
            for (int k = 0; k < shells && slow[sort][k] != 0; k++) {
                int time = 2 * leadsDown + far * girth * slow[sort][k] / 100;
                if (comesUpAt(k, far) && (best == NOTHING || time < best)) {
                    best = time;
                }
                girth -= thick[k];
                leadsDown += thick[k] * slow[sort][k];
            }
            return best;
        }

        private boolean comesUpAt(int k, int far) {
            int from = k == 0 ? 0 : 25 * k - 10;
            int to = k == shells - 1 ? HALF_RING : 40 + 35 * k;
            return far >= from && far <= to;
        }

        private int thrownBack(int sort, int far, int e) {
            if (e < 1 || e >= shells || far > MOST_FAR_BACK) {
                return NOTHING;
            }
            int leadsDown = 0;
            for (int k = 0; k < e; k++) {
                if (slow[sort][k] == 0) {
                    return NOTHING;
                }
                leadsDown += thick[k] * slow[sort][k];
            }
            return 2 * leadsDown + far * slow[sort][e - 1];
        }

        private int down(int depth) {
            return shells == 0 ? 0 : depth * slow[PUSH][0] / 10;
        }

        int dueOf(int kind, int far, int depth) {
            int sort = Kinds.sortOf(kind);
            switch (kind) {
                case Kinds.BACK:
                    return thrownBack(sort, far, shells - 1);
                case Kinds.DEEP:
                    return later(thrownBack(sort, far, shells - 1), 2 * down(depth));
                case Kinds.LATE:
                    return halfOf(later(least(sort, far), -down(depth)), least(PUSH, far));
                case Kinds.EDGE:
                    return firstThere(thrownBack(sort, far, shells - 1), thrownBack(PUSH, far, 1));
                default:
                    return later(least(sort, far), -down(depth));
            }
        }

        private static int later(int time, int by) {
            return time == NOTHING ? NOTHING : Math.max(0, time + by);
        }

        private static int halfOf(int a, int b) {
            return a == NOTHING || b == NOTHING ? NOTHING : (a + b) / 2;
        }

        private static int firstThere(int a, int b) {
            return a == NOTHING ? b : a;
        }
    }

    private static final class Drum {
        final int number, place, noise;
        int drift;

        Drum(int number, int place, int drift, int noise) {
            this.number = number;
            this.place = place;
            this.drift = drift;
            this.noise = noise;
        }
    }

    private static final class Shake {
        final int number;
        int place, depth, hour;

        Shake(int number, int place, int depth, int hour) {
            this.number = number;
            this.place = place;
            this.depth = depth;
            this.hour = hour;
        }
    }

    private static final class Card {
        final int kind, toldTime, toldDay;
        final Drum drum;
        final Shake shake;
        boolean isMended, isWrong;
        int mendedTime, mendedDay;

        Card(int kind, Drum drum, Shake shake, int toldTime, int toldDay) {
            this.kind = kind;
            this.drum = drum;
            this.shake = shake;
            this.toldTime = toldTime;
            this.toldDay = toldDay;
        }

        int timeAsKnown(int known) {
            return isMended && mendedDay <= known ? mendedTime : toldTime;
        }

        int trueTime(int known) {
            return timeAsKnown(known) - drum.drift;
        }

        int far() {
            return apart(drum.place, shake.place);
        }
    }

    /** The search for where, how deep and when a shake was, by the cards that are heard of it. */
    private static final class Placing {
        private static final int STEP = 20, DEEPEST = 80;

        private final int[] kinds = new int[MOST_CARDS];
        private final int[] places = new int[MOST_CARDS];
        private final int[] times = new int[MOST_CARDS];
        private int size;
        private final int[] order = new int[MOST_CARDS];
        private final int[] hours = new int[MOST_CARDS];
        private final boolean[] isAsked = new boolean[Kinds.ALL];
        private final int[][] dues = new int[Kinds.ALL][HALF_RING + 1];

        boolean isFound;
        int bestPlace, bestDepth, bestHour;
        long bestOff;

        void begin() {
            size = 0;
            isFound = false;
            for (int kind = 0; kind < Kinds.ALL; kind++) {
                isAsked[kind] = false;
            }
        }

        void addTime(int kind, int place, int time) {
            if (size < MOST_CARDS) {
                kinds[size] = kind;
                places[size] = place;
                times[size] = time;
                order[size] = size;
                isAsked[kind] = true;
                size++;
            }
        }

        void search(Ball ball) {
            for (int depth = 0; depth <= DEEPEST && size > 0; depth += STEP) {
                tellDues(ball, depth);
                for (int place = 0; place < RING; place++) {
                    if (tellHours(place)) {
                        sortByHours();
                        judge(place, depth);
                    }
                }
            }
        }

        /** The dues of a depth are told once for all places: many of these are equally far. */
        private void tellDues(Ball ball, int depth) {
            for (int kind = 0; kind < Kinds.ALL; kind++) {
                for (int far = 0; far <= HALF_RING && isAsked[kind]; far++) {
                    dues[kind][far] = ball.dueOf(kind, far, depth);
                }
            }
        }

        private boolean tellHours(int place) {
            for (int i = 0; i < size; i++) {
                int card = order[i];
                int late = dues[kinds[card]][apart(place, places[card])];
                if (late == NOTHING) {
                    return false;
                }
                hours[i] = times[card] - late;
            }
            return true;
        }

        /** The order is kept: it is nearly that of the next place, where little is left to sort. */
        private void sortByHours() {
            for (int i = 1; i < size; i++) {
                int card = order[i];
                int hour = hours[i];
                int j = i;
                for (; j > 0 && hours[j - 1] > hour; j--) {
                    order[j] = order[j - 1];
                    hours[j] = hours[j - 1];
                }
                order[j] = card;
                hours[j] = hour;
            }
        }

        private void judge(int place, int depth) {
            int hour = hours[(size - 1) / 2];
            long off = 0;
            for (int i = 0; i < size; i++) {
                off += Math.abs(hours[i] - hour);
            }
            // Depths are tried from the least on, so a like one at the same place is the deeper one.
            if (!isFound || off < bestOff || off == bestOff && place < bestPlace) {
                isFound = true;
                bestPlace = place;
                bestDepth = depth;
                bestHour = hour;
                bestOff = off;
            }
        }
    }

    /** What an image keeps of those that there were then. */
    private static final class Image {
        boolean isThere;
        int shells, drums, shakes, cards;
        private final int[][] slow = new int[Ball.SORTS][Ball.MOST_SHELLS];
        private final int[] drifts = new int[MOST_DRUMS];
        private final int[] places = new int[MOST_SHAKES];
        private final int[] depths = new int[MOST_SHAKES];
        private final int[] hours = new int[MOST_SHAKES];
        private final boolean[] isWrong = new boolean[MOST_CARDS];

        void begin(int drumCount, int shakeCount, int cardCount) {
            isThere = true;
            drums = drumCount;
            shakes = shakeCount;
            cards = cardCount;
        }

        void keepSlows(Ball ball) {
            shells = ball.shells;
            for (int sort = 0; sort < Ball.SORTS; sort++) {
                System.arraycopy(ball.slow[sort], 0, slow[sort], 0, shells);
            }
        }

        void bringSlows(Ball ball) {
            for (int sort = 0; sort < Ball.SORTS; sort++) {
                System.arraycopy(slow[sort], 0, ball.slow[sort], 0, shells);
            }
        }

        void keepDrift(Drum drum) {
            if (drum != null) {
                drifts[drum.number] = drum.drift;
            }
        }

        void bringDrift(Drum drum) {
            if (drum != null) {
                drum.drift = drifts[drum.number];
            }
        }

        void keepShake(Shake shake) {
            if (shake != null) {
                places[shake.number] = shake.place;
                depths[shake.number] = shake.depth;
                hours[shake.number] = shake.hour;
            }
        }

        void bringShake(Shake shake) {
            if (shake != null) {
                shake.place = places[shake.number];
                shake.depth = depths[shake.number];
                shake.hour = hours[shake.number];
            }
        }

        void keepWrong(int c, Card card) {
            if (card != null) {
                isWrong[c] = card.isWrong;
            }
        }

        void bringWrong(int c, Card card) {
            if (card != null) {
                card.isWrong = isWrong[c];
            }
        }
    }

    /** A row of the host's numbers, or none; the room for them is made once. */
    private static final class Sheet {
        static final int MOST = 40, MISSING_SORT = -1;
        private static final int BYTES = 0, SHORTS = 1, INTS = 2;

        final int[] numbers = new int[MOST];
        int sort = MISSING_SORT;
        int size;

        static boolean isSheetSort(int sort) {
            return sort >= BYTES && sort <= INTS;
        }

        boolean isMissing() {
            return sort == MISSING_SORT;
        }

        void vanish() {
            sort = MISSING_SORT;
            size = 0;
        }

        void begin(int newSort, int newSize) {
            sort = newSort;
            size = newSize;
            for (int i = 0; i < MOST; i++) {
                numbers[i] = 0;
            }
        }

        /** Whether n numbers from i on stand in it; written so that no sum can wrap. */
        boolean holds(int i, int n) {
            return i >= 0 && n >= 0 && n <= size && i <= size - n;
        }

        void put(int i, int v) {
            numbers[i] = sort == BYTES ? (byte) v : sort == SHORTS ? (short) v : v;
        }
    }

    /**
     * A text that was read: its two parts as code for a stack. A code of 0 or more is that number;
     * one below 0 is a name, or does what its token (the code without sign) tells.
     */
    private static final class Text {
        private final int[] code, stack;
        private final int takeSize;
        private int top;

        Text(int[] read, int size, int takeSize) {
            code = new int[size];
            stack = new int[size];
            System.arraycopy(read, 0, code, 0, size);
            this.takeSize = takeSize;
        }

        int comesTo(int part, int[] facts) {
            int from = part == 0 ? 0 : takeSize;
            int to = part == 0 ? takeSize : code.length;
            top = 0;
            for (int i = from; i < to; i++) {
                step(code[i], facts);
            }
            return top > 0 ? stack[top - 1] : 0;
        }

        private void step(int op, int[] facts) {
            int name = -op - Tape.FIRST_NAME;
            if (op >= 0) {
                push(op);
            } else if (name >= 0 && name < facts.length) {
                push(facts[name]);
            } else if (op == -Tape.NOT || op == -Tape.MINUS) {
                turn(op);
            } else if (top >= 2) {
                stack[top - 2] = join(-op, stack[top - 2], stack[top - 1]);
                top--;
            }
        }

        private void push(int v) {
            if (top < stack.length) {
                stack[top++] = v;
            }
        }

        private void turn(int op) {
            if (top >= 1) {
                int v = stack[top - 1];
                stack[top - 1] = op == -Tape.MINUS ? -v : truth(v == 0);
            }
        }

        private static int join(int token, int a, int b) {
            switch (token) {
                case Tape.OR: return truth(a != 0 || b != 0);
                case Tape.AND: return truth(a != 0 && b != 0);
                case '<': return truth(a < b);
                case '=': return truth(a == b);
                case '+': return a + b;
                case '-': return a - b;
                default: return a * b;
            }
        }

        private static int truth(boolean is) {
            return is ? 1 : 0;
        }
    }

    /** The bytes that were fed, and the tokens that they are split into. */
    private static final class Tape {
        // A sign's token is its own byte; the others keep clear of these.
        static final int END = 0, NUMBER = 1, BROKEN = 2, MINUS = 3;
        static final int TAKE = 128, CALL = 129, OR = 130, AND = 131, NOT = 132;
        static final int LATE = 133, FAR = 134, KIND = 135, NOISE = 136, DRIFT = 137, DEPTH = 138;
        static final int FIRST_NAME = LATE, NAMES = 6;
        static final int MOST = 160;
        private static final int MOST_DIGITS = 4;
        private static final String SIGNS = "();+-*<=";

        private final int[] bytes = new int[MOST];
        int size;

        // One token more than bytes: the end is a token, too.
        final int[] tokens = new int[MOST + 1];
        final int[] starts = new int[MOST + 1];
        final int[] values = new int[MOST + 1];

        boolean append(long w, int n) {
            if (size + n > MOST) {
                return false;
            }
            for (int i = n - 1; i >= 0; i--) {
                bytes[size++] = (int) (w >> 8 * i) & 255;
            }
            return true;
        }

        void appendAll(String letters) {
            for (int i = 0; i < letters.length() && size < MOST; i++) {
                bytes[size++] = letters.charAt(i);
            }
        }

        void clear() {
            size = 0;
        }

        /** A token that can stand nowhere is split off like any other: the reader stops there. */
        void split() {
            int many = 0;
            int from = pastBlanks(0);
            for (int turns = 0; turns < MOST && from < size; turns++) {
                int to = pastToken(from);
                starts[many] = from;
                values[many] = isDigit(bytes[from]) ? numberIn(from, to) : 0;
                tokens[many++] = tokenIn(from, to);
                from = pastBlanks(to);
            }
            starts[many] = size;
            tokens[many] = END;
        }

        private int pastBlanks(int from) {
            int to = from;
            while (to < size && (bytes[to] == 32 || bytes[to] == 10)) {
                to++;
            }
            return to;
        }

        private int pastToken(int from) {
            int to = from + 1;
            while (to < size && (isLetter(bytes[from]) && isLetter(bytes[to])
                || isDigit(bytes[from]) && isDigit(bytes[to]))) {
                to++;
            }
            return to;
        }

        private int tokenIn(int from, int to) {
            int first = bytes[from];
            if (isLetter(first)) {
                return wordIn(from, to);
            }
            if (isDigit(first)) {
                return to - from > MOST_DIGITS ? BROKEN : NUMBER;
            }
            return SIGNS.indexOf((char) first) >= 0 ? first : BROKEN;
        }

        private int numberIn(int from, int to) {
            int number = 0;
            for (int i = from; i < to; i++) {
                number = 10 * number + bytes[i] - '0';
            }
            return number;
        }

        private int wordIn(int from, int to) {
            for (int word = TAKE; word <= DEPTH; word++) {
                if (isThis(lettersOf(word), from, to)) {
                    return word;
                }
            }
            return BROKEN;
        }

        private boolean isThis(String letters, int from, int to) {
            if (letters.length() != to - from) {
                return false;
            }
            for (int i = from; i < to; i++) {
                if (letters.charAt(i - from) != bytes[i]) {
                    return false;
                }
            }
            return true;
        }

        static boolean isName(int token) {
            return token >= FIRST_NAME && token < FIRST_NAME + NAMES;
        }

        private static boolean isLetter(int b) {
            return b >= 'a' && b <= 'z';
        }

        private static boolean isDigit(int b) {
            return b >= '0' && b <= '9';
        }

        private static String lettersOf(int word) {
            switch (word) {
                case TAKE: return "take";
                case CALL: return "call";
                case OR: return "or";
                case AND: return "and";
                case NOT: return "not";
                case LATE: return "late";
                case FAR: return "far";
                case KIND: return "kind";
                case NOISE: return "noise";
                case DRIFT: return "drift";
                case DEPTH: return "depth";
                default: return "";
            }
        }
    }

    /**
     * Reads a text from the tape's tokens into code. Each function that reads answers whether all
     * could stand; if not, the token at which it stopped is the fault.
     */
    private static final class Reader {
        private static final int MOST_OPEN = 5;

        final Tape tape = new Tape();
        private int at;
        private final int[] code = new int[Tape.MOST];
        private int codeSize;

        int stoppedAt() {
            return tape.starts[at];
        }

        /** The text, or null: then the reading stopped at its fault. */
        Text readText() {
            tape.split();
            at = 0;
            codeSize = 0;
            if (!readPart(Tape.TAKE)) {
                return null;
            }
            int takeSize = codeSize;
            if (!readPart(Tape.CALL) || tape.tokens[at] != Tape.END) {
                return null;
            }
            return new Text(code, codeSize, takeSize);
        }

        private boolean readPart(int key) {
            return accept(key) && readOr(0) && accept(';');
        }

        private boolean readOr(int open) {
            boolean stands = readAnd(open);
            for (int turns = 0; turns < Tape.MOST && stands && accept(Tape.OR); turns++) {
                stands = readAnd(open);
                emit(-Tape.OR);
            }
            return stands;
        }

        private boolean readAnd(int open) {
            boolean stands = readNot(open);
            for (int turns = 0; turns < Tape.MOST && stands && accept(Tape.AND); turns++) {
                stands = readNot(open);
                emit(-Tape.AND);
            }
            return stands;
        }

        private boolean readNot(int open) {
            if (tape.tokens[at] != Tape.NOT) {
                return readCompared(open);
            }
            if (open >= MOST_OPEN) {
                return false;
            }
            at++;
            boolean stands = readNot(open + 1);
            emit(-Tape.NOT);
            return stands;
        }

        private boolean readCompared(int open) {
            boolean stands = readSum(open);
            int sign = tape.tokens[at];
            if (stands && (accept('<') || accept('='))) {
                stands = readSum(open);
                emit(-sign);
            }
            return stands;
        }

        private boolean readSum(int open) {
            boolean stands = readTerm(open);
            for (int turns = 0; turns < Tape.MOST && stands; turns++) {
                int sign = tape.tokens[at];
                if (!accept('+') && !accept('-')) {
                    return true;
                }
                stands = readTerm(open);
                emit(-sign);
            }
            return stands;
        }

        private boolean readTerm(int open) {
            boolean stands = readOne(open);
            for (int turns = 0; turns < Tape.MOST && stands && accept('*'); turns++) {
                stands = readOne(open);
                emit(-'*');
            }
            return stands;
        }

        private boolean readOne(int open) {
            int token = tape.tokens[at];
            if (token == Tape.NUMBER || Tape.isName(token)) {
                emit(token == Tape.NUMBER ? tape.values[at] : -token);
                at++;
                return true;
            }
            if (open >= MOST_OPEN) {
                return false;
            }
            if (accept('(')) {
                return readOr(open + 1) && accept(')');
            }
            if (!accept('-')) {
                return false;
            }
            boolean stands = readOne(open + 1);
            emit(-Tape.MINUS);
            return stands;
        }

        /** Moves on behind a wanted token; nobody wants the end, so that one always stays ahead. */
        private boolean accept(int wanted) {
            boolean isNext = tape.tokens[at] == wanted;
            if (isNext) {
                at++;
            }
            return isNext;
        }

        /** Each token gives one code at most, so there is room for all. */
        private void emit(int op) {
            if (codeSize < Tape.MOST) {
                code[codeSize++] = op;
            }
        }
    }
}
