/** What the tests have in common: comparing answers with what is due, and short ways to call the clock. */
final class Check {
    private int wrong = 0;
    private String sentence = "";

    /** The sentence of the document that the next comparisons are about. */
    void sentence(String words) {
        sentence = "\"" + words + "\": ";
    }

    void due(String call, long got, long want) {
        if (got != want) {
            wrong++;
            System.out.println(sentence + call + " answered " + got + ", due is " + want);
        }
    }

    void due(String call, boolean got, boolean want) {
        due(call, got ? 1L : 0L, want ? 1L : 0L);
    }

    void due(String call, String got, String want) {
        if (!got.equals(want)) {
            wrong++;
            System.out.println(sentence + call + " answered \"" + got + "\", due is \"" + want + "\"");
        }
    }

    void finish() {
        if (wrong != 0) {
            System.out.println(wrong + " answers are not as due");
            System.exit(1);
        }
    }

    static void type(SkeletonClock clock, String text) {
        for (int p = 0; p < text.length(); p++) {
            clock.type(text.charAt(p));
        }
    }

    static int define(SkeletonClock clock, int slot, String pattern) {
        type(clock, pattern);
        return clock.define(slot);
    }

    static int match(SkeletonClock clock, String wish) {
        type(clock, wish);
        return clock.match();
    }

    static String page(SkeletonClock clock) {
        StringBuilder page = new StringBuilder();
        for (int p = 0; clock.charAt(p) != SkeletonClock.NONE; p++) {
            page.append((char) clock.charAt(p));
        }
        return page.toString();
    }

    /** How many characters the text has, by how many more go in; it is empty then. */
    static int textLength(SkeletonClock clock) {
        int room = 0;
        while (clock.type('x')) {
            room++;
        }
        clock.match();
        return 60 - room;
    }

    /** Prints the clock's moment by a pattern; the page, or the answer when it was not printed. */
    static String printed(SkeletonClock clock, String pattern) {
        define(clock, 0, pattern);
        int answer = clock.print(0);
        return answer < 0 ? String.valueOf(answer) : page(clock);
    }

    /** Reads a text by a pattern on a new clock: its answer, or what was read. */
    static String reading(String pattern, String text, int style, boolean loose) {
        SkeletonClock clock = new SkeletonClock();
        int fault = define(clock, 3, pattern);
        if (fault != SkeletonClock.NONE) {
            return "fault " + fault;
        }
        type(clock, text);
        int answer = clock.read(3, style, loose);
        if (answer == SkeletonClock.CLASH) {
            return "clash";
        }
        return answer != SkeletonClock.NONE ? "fails at " + answer : latest(clock);
    }

    static String latest(SkeletonClock clock) {
        return clock.parts() + " " + clock.seconds() + " " + clock.nano() + " " + clock.minutes();
    }
}
