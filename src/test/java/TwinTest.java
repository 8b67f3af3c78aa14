import java.util.Random;

/** Made-up runs, each from a fixed row of chances, against the plainer telling of the document. */
public final class TwinTest {
    private static final Check check = new Check("TwinTest");

    private final Random random;
    private final String run;
    private final DrumWorld x = new DrumWorld();
    private final Twin twin = new Twin();
    private int day;
    private int calls;

    private TwinTest(int seed) {
        random = new Random(seed);
        run = "run " + seed + ": ";
    }

    public static void main(String[] args) {
        for (int seed = 0; seed < 400 && check.wrongSoFar() < 20; seed++) {
            TwinTest test = new TwinTest(seed);
            test.build();
            for (int turn = 0; turn < 40; turn++) {
                test.change();
                test.ask();
            }
            check.holds("run " + seed + " keeps to 512 calls", test.calls <= 512);
        }
        check.close();
    }

    private int in(int least, int most) {
        return least + random.nextInt(most - least + 1);
    }

    private void due(String call, long got, long want) {
        calls++;
        check.due(run + call, got, want);
    }

    private void build() {
        for (String rule : Twin.RULES) {
            if (!rule.equals(Twin.RULES[0])) {
                calls += 1 + rule.length() / 8 + 1;
                Check.text(x, rule);
            }
        }
        for (int n = in(0, 5); n > 0; n--) {
            addShell();
        }
        for (int n = in(1, 8); n > 0; n--) {
            addDrum();
        }
        for (int n = in(1, 3); n > 0; n--) {
            addShake();
        }
        for (int n = in(0, random.nextBoolean() ? 8 : 30); n > 0; n--) {
            addCard();
        }
    }

    private void addShell() {
        Twin.Shell shell = new Twin.Shell();
        shell.thick = in(1, 118);
        shell.slow[0] = in(1, random.nextBoolean() ? 99 : 20);
        shell.slow[1] = random.nextInt(4) == 0 ? 0 : in(0, 99);
        due("shell", x.shell(shell.thick, shell.slow[0], shell.slow[1]), twin.shells.size());
        twin.shells.add(shell);
    }

    private void addDrum() {
        Twin.Drum drum = new Twin.Drum();
        drum.place = in(0, 359);
        drum.drift = in(-99, 99);
        drum.noise = in(0, 9);
        due("drum", x.drum(drum.place, drum.drift, drum.noise), twin.drums.size());
        twin.drums.add(drum);
    }

    private void addShake() {
        Twin.Shake shake = new Twin.Shake();
        shake.place = in(0, 359);
        shake.depth = in(0, 99);
        shake.hour = random.nextInt(5) == 0 ? in(0, 9999999) : in(0, 30000);
        due("shake", x.shake(shake.place, shake.depth, shake.hour), twin.shakes.size());
        twin.shakes.add(shake);
    }

    /** Most cards are nearly in time, so that the rule takes some. */
    private void addCard() {
        Twin.Card card = new Twin.Card();
        int d = in(0, twin.drums.size() - 1);
        int s = in(0, twin.shakes.size() - 1);
        card.kind = in(0, 5);
        card.drum = twin.drums.get(d);
        card.shake = twin.shakes.get(s);
        card.day = day;
        int late = twin.late(card, card.kind, 0);
        int time = late == Twin.NEVER ? in(0, 40000) : -late + in(-60, 60) * (random.nextInt(4) == 0 ? 30 : 1);
        card.time = Math.max(0, Math.min(9999999, time));
        int want = twin.cards.size() < 40 ? twin.cards.size() : -4;
        due("card", x.card(card.kind, d, s, card.time), want);
        if (want >= 0) {
            twin.cards.add(card);
        }
    }

    private void change() {
        switch (in(0, 9)) {
            case 0: addCard(); break;
            case 1: passDays(); break;
            case 2: mendOne(); break;
            case 3: callWrong(); break;
            case 4: putClock(); break;
            case 5: putPace(); break;
            case 6: settleOne(); break;
            case 7: force(); break;
            default: break;
        }
    }

    private void passDays() {
        int n = in(1, 5);
        day += n;
        due("days", x.days(n), day);
    }

    private void mendOne() {
        if (!twin.cards.isEmpty()) {
            int c = in(0, twin.cards.size() - 1);
            Twin.Card card = twin.cards.get(c);
            int time = Math.max(0, Math.min(9999999, card.time + in(-300, 300)));
            due("mend", x.mend(c, time), card.mended >= 0 ? -3 : card.time);
            if (card.mended < 0) {
                card.mended = time;
                card.mendDay = day;
            }
        }
    }

    private void callWrong() {
        if (!twin.cards.isEmpty()) {
            int c = in(0, twin.cards.size() - 1);
            boolean is = random.nextBoolean();
            due("wrong", x.wrong(c, is ? 1 : 0), twin.cards.get(c).wrong ? 1 : 0);
            twin.cards.get(c).wrong = is;
        }
    }

    private void putClock() {
        int d = in(0, twin.drums.size() - 1);
        int drift = in(-99, 99);
        due("clock", x.clock(d, drift), twin.drums.get(d).drift);
        twin.drums.get(d).drift = drift;
    }

    private void putPace() {
        if (!twin.shells.isEmpty()) {
            int k = in(0, twin.shells.size() - 1);
            int sort = in(0, 1);
            int v = sort == 1 && random.nextInt(4) == 0 ? 0 : in(1, 99);
            due("pace", x.pace(k, sort, v), twin.shells.get(k).slow[sort]);
            twin.shells.get(k).slow[sort] = v;
        }
    }

    private void settleOne() {
        int s = in(0, twin.shakes.size() - 1);
        Twin.Shake shake = twin.shakes.get(s);
        long[] found = twin.place(shake, day);
        if (found == null) {
            due("settle", x.settle(s, day), DrumWorld.NO + 2);
            return;
        }
        int hour = (int) Math.max(0, Math.min(9999999, found[2]));
        due("settle", x.settle(s, day), hour - shake.hour);
        shake.place = (int) found[0];
        shake.depth = (int) found[1];
        shake.hour = hour;
        due("shakeTold 0", x.shakeTold(s, 0), shake.place);
        due("shakeTold 1", x.shakeTold(s, 1), shake.depth);
        due("shakeTold 2", x.shakeTold(s, 2), shake.hour);
    }

    private void force() {
        int rule = in(0, Twin.RULES.length - 1);
        due("force", x.force(rule), twin.rule);
        twin.rule = rule;
    }

    private void ask() {
        int known = in(0, day);
        switch (in(0, 7)) {
            case 0: askDue(); break;
            case 1: askCard(known); break;
            case 2: askPlace(known); break;
            case 3: askTable(known); break;
            case 4: askRefit(known); break;
            case 5: due("strange", x.strange(known), twin.strange(known)); break;
            case 6: askWatch(); break;
            default: askShadow(); break;
        }
    }

    private void askDue() {
        int[] fars = {0, 14, 15, 39, 40, 41, 64, 65, 75, 76, 89, 90, 91, 110, 111, 145, 146, 180};
        int far = random.nextBoolean() ? fars[in(0, fars.length - 1)] : in(0, 180);
        int depth = in(0, 99);
        for (int kind = 0; kind < 6; kind++) {
            due("due(" + kind + ", " + far + ", " + depth + ")", x.due(kind, far, depth), twin.due(kind, far, depth));
        }
    }

    private void askShadow() {
        int sort = in(0, 1);
        int from = 0;
        while (from <= 180 && twin.least(sort, from) != Twin.NONE) {
            from++;
        }
        int to = from;
        while (to < 180 && twin.least(sort, to + 1) == Twin.NONE) {
            to++;
        }
        due("shadow from", x.shadow(sort, 0), from > 180 ? -1 : from);
        due("shadow to", x.shadow(sort, 1), from > 180 ? -1 : to);
    }

    private void askCard(int known) {
        if (!twin.cards.isEmpty()) {
            int c = in(0, twin.cards.size() - 1);
            int off = in(0, 2000);
            Twin.Card card = twin.cards.get(c);
            due("cardTold time", x.cardTold(c, 3, known), Twin.timeKnown(card, known));
            due("cardTold late", x.cardTold(c, 4, known), twin.late(card, card.kind, known));
            due("cardTold day", x.cardTold(c, 5, known), card.day);
            due("cardTold wrong", x.cardTold(c, 6, known), card.wrong ? 1 : 0);
            due("called", x.called(c, off, known), twin.called(card, off, known));
            due("law take", x.law(c, 0, known), twin.law(card, 0, known));
            due("law call", x.law(c, 1, known), twin.law(card, 1, known));
        }
    }

    private void askPlace(int known) {
        int s = in(0, twin.shakes.size() - 1);
        long[] found = twin.place(twin.shakes.get(s), known);
        for (int what = 0; what < 4; what++) {
            due("place(" + s + ", " + known + ", " + what + ")", x.place(s, known, what), found == null ? -3 : found[what]);
        }
    }

    private void askTable(int known) {
        int sort = in(0, 1);
        for (int n = 0; n < 4; n++) {
            int bin = n == 0 ? 17 : in(0, 17);
            for (int part = 0; part < 2; part++) {
                due("table(" + sort + ", " + bin + ", " + known + ", " + part + ")",
                    x.table(sort, bin, known, part), twin.table(sort, bin, known, part));
            }
        }
    }

    private void askRefit(int known) {
        int cap = random.nextBoolean() ? in(1, 99999) : in(1, 500);
        long[] want = twin.refit(known, cap);
        due("refit(" + known + ", " + cap + ")", x.refit(known, cap), want[0]);
        for (int i = 0; i < 3; i++) {
            due("refitTold(" + i + ")", x.refitTold(i), want[i + 1]);
        }
    }

    private void askWatch() {
        int[] numbers = new int[in(0, 6)];
        for (int i = 0; i < numbers.length; i++) {
            numbers[i] = in(0, 359);
        }
        calls += 1 + numbers.length;
        Check.ints(x, 0, numbers);
        int most = in(0, 8);
        int far = in(0, 1) == 0 ? in(0, 180) : in(0, 40);
        int[] want = twin.watch(numbers, most, far);
        due("watch(" + most + ", " + far + ")", x.watch(0, most, far), want[0]);
        due("watched", x.watched(), want[1]);
    }
}
