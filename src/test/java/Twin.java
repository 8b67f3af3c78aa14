import java.util.ArrayList;
import java.util.Arrays;
import java.util.List;

/**
 * A second telling of the ball, the cards and all that is searched among them, as plain as the
 * document's words and without regard for speed, to be asked the same as a DrumWorld.
 */
class Twin {
    static final int NONE = -1;
    static final int NEVER = 1000000000;

    static final class Shell {
        int thick;
        final int[] slow = new int[2];
    }

    static final class Drum {
        int place, drift, noise;
    }

    static final class Shake {
        int place, depth, hour;
    }

    static final class Card {
        int kind, time, day, mended = -1, mendDay;
        Drum drum;
        Shake shake;
        boolean wrong;
    }

    final List<Shell> shells = new ArrayList<>();
    final List<Drum> drums = new ArrayList<>();
    final List<Shake> shakes = new ArrayList<>();
    final List<Card> cards = new ArrayList<>();
    int rule;

    static int apart(int a, int b) {
        int least = 999;
        for (int turn = -360; turn <= 360; turn += 360) {
            least = Math.min(least, Math.abs(a - b + turn));
        }
        return least;
    }

    int leadsDown(int sort, int k) {
        int sum = 0;
        for (Shell s : shells.subList(0, k)) {
            sum += s.thick * s.slow[sort];
        }
        return sum;
    }

    int least(int sort, int far) {
        int[] from = {0, 15, 40, 65, 90};
        int[] to = {40, 75, 110, 145, 180};
        List<Integer> times = new ArrayList<>();
        for (int k = 0; k < shells.size(); k++) {
            int slow = shells.get(k).slow[sort];
            if (slow == 0) {
                break;
            }
            int last = k + 1 == shells.size() ? 180 : to[k];
            int girth = 600 - shells.subList(0, k).stream().mapToInt(s -> s.thick).sum();
            if (far >= from[k] && far <= last) {
                times.add(2 * leadsDown(sort, k) + far * girth * slow / 100);
            }
        }
        return times.stream().mapToInt(t -> t).min().orElse(NONE);
    }

    int thrownBack(int sort, int far, int e) {
        boolean goes = e >= 1 && e < shells.size() && far <= 90
            && shells.subList(0, e).stream().allMatch(s -> s.slow[sort] != 0);
        return goes ? 2 * leadsDown(sort, e) + far * shells.get(e - 1).slow[sort] : NONE;
    }

    int down(int depth) {
        return shells.isEmpty() ? 0 : depth * shells.get(0).slow[0] / 10;
    }

    int due(int kind, int far, int depth) {
        int last = shells.size() - 1;
        if (kind == 0 || kind == 1) {
            int time = least(kind, far);
            return time == NONE ? NONE : Math.max(0, time - down(depth));
        }
        if (kind == 2) {
            return thrownBack(0, far, last);
        }
        if (kind == 3) {
            return due(2, far, depth) == NONE ? NONE : due(2, far, depth) + 2 * down(depth);
        }
        if (kind == 4) {
            int sway = due(1, far, depth);
            int push = least(0, far);
            return sway == NONE || push == NONE ? NONE : (sway + push) / 2;
        }
        int edge = thrownBack(1, far, last);
        return edge != NONE ? edge : thrownBack(0, far, 1);
    }

    static int sortOf(int kind) {
        return new int[] {0, 1, 0, 0, 1, 1}[kind];
    }

    static int timeKnown(Card c, int known) {
        return c.mended >= 0 && c.mendDay <= known ? c.mended : c.time;
    }

    int late(Card c, int kind, int known) {
        int due = due(kind, apart(c.drum.place, c.shake.place), c.shake.depth);
        return due == NONE ? NEVER : timeKnown(c, known) - c.drum.drift - c.shake.hour - due;
    }

    static boolean isHeard(Card c, int known) {
        return c.day <= known && !c.wrong;
    }

    /** The rules that the test uses, told in Java. */
    static final String[] RULES = {"take late < 50 and noise < 4 ; call far < 100 or 4 = kind ;",
        "take not late = 9999;call drift*depth-kind;", "take kind - 2 or noise;call not(far<90)+-late;"};

    long law(Card c, int part, int known) {
        int late = Math.min(9999, Math.abs(late(c, c.kind, known)));
        int far = apart(c.drum.place, c.shake.place);
        switch (2 * rule + part) {
            case 0: return late < 50 && c.drum.noise < 4 ? 1 : 0;
            case 1: return far < 100 || c.kind == 4 ? 1 : 0;
            case 2: return late == 9999 ? 0 : 1;
            case 3: return c.drum.drift * c.shake.depth - c.kind;
            case 4: return c.kind != 2 || c.drum.noise != 0 ? 1 : 0;
            default: return (far < 90 ? 1 : 0) - late == 0 ? 1 : 0;
        }
    }

    /** Place, depth, hour, off; or null. */
    long[] place(Shake s, int known) {
        long[] best = null;
        for (int place = 0; place < 360; place++) {
            for (int depth = 0; depth <= 80; depth += 20) {
                long[] found = off(s, known, place, depth);
                if (found != null && (best == null || found[3] < best[3])) {
                    best = found;
                }
            }
        }
        return best;
    }

    private long[] off(Shake s, int known, int place, int depth) {
        List<Long> hours = new ArrayList<>();
        for (Card c : cards) {
            if (c.shake == s && isHeard(c, known)) {
                int due = due(c.kind, apart(place, c.drum.place), depth);
                if (due == NONE) {
                    return null;
                }
                hours.add((long) timeKnown(c, known) - c.drum.drift - due);
            }
        }
        if (hours.isEmpty()) {
            return null;
        }
        long[] sorted = hours.stream().mapToLong(h -> h).sorted().toArray();
        long hour = sorted.length % 2 == 1 ? sorted[sorted.length / 2] : sorted[sorted.length / 2 - 1];
        return new long[] {place, depth, hour, Arrays.stream(sorted).map(h -> Math.abs(h - hour)).sum()};
    }

    long table(int sort, int bin, int known, int part) {
        long all = 0;
        long many = 0;
        for (Card c : cards) {
            int far = apart(c.drum.place, c.shake.place);
            boolean inBin = far / 10 == bin || far == 180 && bin == 17;
            int late = late(c, c.kind, known);
            if (inBin && sortOf(c.kind) == sort && late != NEVER && isHeard(c, known) && law(c, 0, known) != 0) {
                all += late;
                many++;
            }
        }
        if (all == 0) {
            return part;
        }
        long divisor = java.math.BigInteger.valueOf(all).gcd(java.math.BigInteger.valueOf(many)).longValue();
        return (part == 0 ? all : many) / divisor;
    }

    long allOff(int known, int cap) {
        return cards.stream().filter(c -> isHeard(c, known))
            .mapToLong(c -> Math.min(cap, Math.abs(late(c, c.kind, known)))).sum();
    }

    /** All off, shell, sort, slow. */
    long[] refit(int known, int cap) {
        long[] best = {allOff(known, cap), -1, -1, -1};
        for (int k = 0; k < shells.size(); k++) {
            for (int sort = 0; sort < 2; sort++) {
                int was = shells.get(k).slow[sort];
                for (int i = 0; i < 15; i++) {
                    int v = 7 * i + 1 - sort;
                    shells.get(k).slow[sort] = v;
                    long all = allOff(known, cap);
                    best = all < best[0] ? new long[] {all, k, sort, v} : best;
                }
                shells.get(k).slow[sort] = was;
            }
        }
        return best;
    }

    int called(Card c, int off, int known) {
        int bits = 0;
        for (int kind = 5; kind >= 0; kind--) {
            int late = late(c, kind, known);
            bits = 2 * bits + (late != NEVER && late <= off && late >= -off ? 1 : 0);
        }
        return bits;
    }

    long strange(int known) {
        return cards.stream().filter(c -> isHeard(c, known) && late(c, c.kind, known) == NEVER).count();
    }

    /** How many, and the drums as bits. */
    int[] watch(int[] numbers, int most, int far) {
        int[] best = {-1, 0};
        for (int set = 0; set < 1 << drums.size(); set++) {
            int near = 0;
            for (int number : numbers) {
                boolean isNear = false;
                for (int d = 0; d < drums.size(); d++) {
                    isNear |= (set >> d & 1) == 1 && apart(number, drums.get(d).place) <= far;
                }
                near += isNear ? 1 : 0;
            }
            if (Integer.bitCount(set) <= most && near > best[0]) {
                best = new int[] {near, set};
            }
        }
        return best;
    }
}
