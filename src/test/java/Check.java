/** What the tests share: compares answers with what is due, and feeds texts. */
final class Check {
    private final String name;
    private int wrong = 0;

    Check(String name) {
        this.name = name;
    }

    void due(String call, long got, long want) {
        if (got != want) {
            wrong++;
            System.out.println(name + ": " + call + " answered " + got + ", due is " + want);
        }
    }

    void dueText(String what, String got, String want) {
        if (!got.equals(want)) {
            wrong++;
            System.out.println(name + ": " + what + " is\n  " + got + "\n  due is\n  " + want);
        }
    }

    /** Ends the test: exit code 1 if an answer was not as due. */
    void finish() {
        System.out.println(name + ": " + (wrong == 0 ? "all answers are as due" : wrong + " answers are not as due"));
        if (wrong != 0) {
            System.exit(1);
        }
    }

    /** Puts a text on an empty TAPE, with the length that it has. */
    static void write(SnowSentries x, String text) {
        for (int at = 0; at < text.length(); at += 8) {
            x.feed(word(text, at));
        }
        x.end(text.length());
    }

    static long word(String text, int at) {
        long v = 0;
        for (int k = at; k < at + 8; k++) {
            v = v << 8 | (k < text.length() ? text.charAt(k) & 255 : 32);
        }
        return v;
    }

    /** A new object with the land that a text tells. */
    static SnowSentries told(String text) {
        SnowSentries x = new SnowSentries();
        write(x, text);
        int lines = x.land();
        if (lines < 0) {
            throw new IllegalStateException("the text of a test has FAULT " + x.fault() + " at " + (-10 - lines) + ": " + text);
        }
        return x;
    }
}
