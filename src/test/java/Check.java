/** What a test asks: each call's answer against the one that is due. */
final class Check {
    private final String name;
    private int asked;
    private int wrong;
    private String sentence = "";
    private int askedOfSentence = 1;

    Check(String name) {
        this.name = name;
    }

    /**
     * The document's words that the next answers are asked by. SentencesTest looks for them in the
     * document, so they stand here as they stand there; and something must be asked of each.
     */
    void says(String words) {
        endSentence();
        sentence = words;
        askedOfSentence = 0;
    }

    private void endSentence() {
        if (askedOfSentence == 0) {
            wrong++;
            System.out.println(name + ": nothing is asked of \"" + sentence + "\"");
        }
    }

    void due(String call, long got, long want) {
        asked++;
        askedOfSentence++;
        if (got != want) {
            wrong++;
            System.out.println(name + ": " + call + " answered " + got + ", due is " + want
                + (sentence.isEmpty() ? "" : " (\"" + sentence + "\")"));
        }
    }

    void holds(String what, boolean is) {
        due(what, is ? 1 : 0, 1);
    }

    int wrongSoFar() {
        return wrong;
    }

    void close() {
        endSentence();
        System.out.println(name + ": " + asked + " asked, " + wrong + " wrong");
        if (wrong != 0 || asked == 0) {
            System.exit(1);
        }
    }

    /** Puts letters on the tape, eight at a time; answers what the last feed did. */
    static int feed(DrumWorld x, String letters) {
        int answer = 0;
        for (int i = 0; i < letters.length(); i += 8) {
            String part = letters.substring(i, Math.min(letters.length(), i + 8));
            long w = 0;
            for (char c : part.toCharArray()) {
                w = w << 8 | c;
            }
            answer = x.feed(w, part.length());
        }
        return answer;
    }

    static int text(DrumWorld x, String letters) {
        feed(x, letters);
        return x.text();
    }

    /** A sheet of ints with these numbers. */
    static void ints(DrumWorld x, int sheet, int... numbers) {
        x.sheet(sheet, 2, numbers.length);
        for (int i = 0; i < numbers.length; i++) {
            x.cell(sheet, i, numbers[i]);
        }
    }
}
