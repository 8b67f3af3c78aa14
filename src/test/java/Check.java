/** What a test asks: each call's answer against the one that is due. */
final class Check {
    private final String name;
    private int asked;
    private int wrong;

    Check(String name) {
        this.name = name;
    }

    void due(String call, long got, long want) {
        asked++;
        if (got != want) {
            wrong++;
            System.out.println(name + ": " + call + " answered " + got + ", due is " + want);
        }
    }

    void holds(String what, boolean is) {
        due(what, is ? 1 : 0, 1);
    }

    int wrongSoFar() {
        return wrong;
    }

    void close() {
        System.out.println(name + ": " + asked + " asked, " + wrong + " wrong");
        if (wrong != 0 || asked == 0) {
            System.exit(1);
        }
    }

    /** Puts letters on the tape, eight at a time; answers what the last feed did. */
    static int feed(DrumWorld x, String letters) {
        int answer = 0;
        for (int i = 0; i < letters.length(); i += 8) {
            String part = letters.substring(i, Math.min(letters.length(), i + 8));
            long w = 0;
            for (char c : part.toCharArray()) {
                w = w << 8 | c;
            }
            answer = x.feed(w, part.length());
        }
        return answer;
    }

    static int text(DrumWorld x, String letters) {
        feed(x, letters);
        return x.text();
    }

    /** A sheet of ints with these numbers. */
    static void ints(DrumWorld x, int sheet, int... numbers) {
        x.sheet(sheet, 2, numbers.length);
        for (int i = 0; i < numbers.length; i++) {
            x.cell(sheet, i, numbers[i]);
        }
    }
}
