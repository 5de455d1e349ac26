import java.time.LocalDate;

/** The document's promises 1 to 16: each sentence in its order and in its words, with calls that show it. */
public final class WordsOfPromisesTest {
    private static final Check check = new Check();
    private static final int NONE = SkeletonClock.NONE;
    private static final int REFUSED = SkeletonClock.REFUSED;
    private static final int[] NO_SLOTS = {Integer.MIN_VALUE, -2, -1, 6, 7, Integer.MAX_VALUE};
    private static final String NOON = "u-M-d H:m:s.SSS XXX";

    private static SkeletonClock with(String pattern) {
        SkeletonClock clock = new SkeletonClock();
        Check.define(clock, 0, pattern);
        return clock;
    }

    private static int read(SkeletonClock clock, String text, int style) {
        Check.type(clock, text);
        return clock.read(0, style, false);
    }

    private static void text(SkeletonClock clock, int length) {
        check.due("characters of the text", Check.textLength(clock), length);
    }

    private static void refusals() {
        check.sentence("A call that is refused changes nothing (but see define, match and read on the text).");
        SkeletonClock clock = with("d");
        clock.moment(86400L, 5, 0, 7);
        clock.print(0);
        Check.match(clock, "dd");
        Check.type(clock, "MM");
        check.due("type", clock.type((char) 31), false);
        check.due("define", clock.define(6), REFUSED);
        check.due("moment", clock.moment(0L, 0, 0, 8), false);
        check.due("print", clock.print(1), REFUSED);
        check.due("read", clock.read(0, 3, false), REFUSED);
        check.due("take", clock.take(), false);
        check.due("distance", clock.distance(), 1);
        check.due("the page", Check.page(clock), "2");
        check.due("field d", clock.field('d'), 2);
        check.due("field S", clock.field('S'), 5);
        check.due("what was read", Check.latest(clock), "0 0 0 0");
        check.due("the text, by define", clock.define(1), NONE);
        check.due("print(1)", clock.print(1), 2);
        check.due("match, which empties the text", Check.match(clock, "q"), REFUSED);
        check.due("distance", clock.distance(), 1);
        text(clock, 0);
        check.sentence("The constants: `CLASH = 100`: What read answers for a clash.");
        check.due("CLASH", SkeletonClock.CLASH, 100);
        check.due("read 24 by H", read(with("H"), "24", 0), 100);
    }

    private static void newObject() {
        check.sentence("`SkeletonClock()`: No text, no patterns, an empty page; the moment is 1970-01-01, 0:00:00, "
            + "offset 0, with all three parts; nothing was read.");
        text(new SkeletonClock(), 0);
        for (int slot = 0; slot <= 5; slot++) {
            check.due("print(" + slot + ")", new SkeletonClock().print(slot), REFUSED);
        }
        check.due("the page", Check.page(new SkeletonClock()), "");
        check.due("the moment", Check.printed(new SkeletonClock(), NOON), "1970-1-1 0:0:0.000 Z");
        check.due("what was read", Check.latest(new SkeletonClock()), "0 0 0 0");
        check.due("take()", new SkeletonClock().take(), false);
    }

    private static void type() {
        check.sentence("`boolean type(char c)`: Appends a character to the text and answers true; false when c is "
            + "not 32 .. 126 or the text has 60.");
        SkeletonClock clock = new SkeletonClock();
        int[] bad = {0, 9, 10, 31, 127, 128, 255, 256, 288, 0x7fff, 0xff41, 0xffff};
        for (int c : bad) {
            check.due("type " + c, clock.type((char) c), false);
        }
        for (int c = 32; c <= 126; c++) {
            check.due("type " + c, new SkeletonClock().type((char) c), true);
        }
        check.due("the order", Check.printed(clock, "3-1'b'"), "3-1b");
        for (int k = 1; k <= 62; k++) {
            check.due("type the character " + k, clock.type('-'), k <= 60);
        }
    }

    private static void define() {
        check.sentence("`int define(int slot)`: Reads the text as a pattern, which becomes the one of the slot. "
            + "Answers NONE, or its fault, the slot staying as it is; REFUSED, the text staying too, when slot is "
            + "not 0 .. 5. The text is empty then.");
        SkeletonClock clock = new SkeletonClock();
        for (int slot = 0; slot <= 5; slot++) {
            check.due("define(" + slot + ")", Check.define(clock, slot, "-".repeat(slot)), NONE);
        }
        for (int slot = 0; slot <= 5; slot++) {
            check.due("print(" + slot + ")", clock.print(slot), slot);
        }
        check.due("a fault", Check.define(clock, 5, "-".repeat(8) + "q"), 8);
        text(clock, 0);
        check.due("print(5)", clock.print(5), 5);
        Check.type(clock, "--------");
        for (int slot : NO_SLOTS) {
            check.due("define(" + slot + ")", clock.define(slot), REFUSED);
        }
        check.due("define(5) of the text that stayed", clock.define(5), NONE);
        check.due("print(5)", clock.print(5), 8);
        text(clock, 0);
    }

    private static void wish(String text, boolean good) {
        SkeletonClock clock = with("u");
        check.due("match " + text, Check.match(clock, text), good ? 0 : REFUSED);
        text(clock, 0);
    }

    private static void away(String pattern, String wish, int want) {
        SkeletonClock clock = with(pattern);
        check.due("match " + wish, Check.match(clock, wish), 0);
        check.due("distance of " + pattern + " to " + wish, clock.distance(), want);
    }

    private static void match() {
        check.sentence("`int match()`: Reads the text as a wish: runs of letters with their lengths as counts, as "
            + "they are allowed in patterns, no other characters, no letter in two runs (the empty text is a wish "
            + "too).");
        String[] wishes = {"", "u", "uuuuMMdd", "Xx", "SSSSSSSSS", "EEEEMMMMdu", "uYMdDEEEwHhamsSXx"};
        for (String wish : wishes) {
            wish(wish, true);
        }
        String[] others = {"uuu", "EE", "q", "SSSSSSSSSS", "u-M", " ", "'u'", "''", "[u]", "[]", "uMu", "uMMuu", "]", "u ",
            "1"};
        for (String other : others) {
            wish(other, false);
        }
        check.sentence("The DISTANCE of a slot's pattern is the sum over all letters: 0 when neither has it, 1000 "
            + "when one of the two has it, else the difference of the counts, and 100 more when the letter is M and "
            + "just one of the counts is above 2; the count in the pattern is that of the first piece of that letter "
            + "(in sections or not; X and x are two letters).");
        away("", "", 0);
        away("-'M'", "", 0);
        away("u", "", 1000);
        away("", "u", 1000);
        away("u", "M", 2000);
        away("uuuu", "u", 3);
        away("S", "SSSSSSSSS", 8);
        away("EEEE", "EEE", 1);
        away("M", "MM", 1);
        away("MM", "MMM", 101);
        away("MMMM", "M", 103);
        away("MMMM", "MMM", 1);
        away("dd-MMMM", "uMMd", 1103);
        away("[[d]-]dd", "dd", 1);
        away("dd-d", "dd", 0);
        away("X", "x", 2000);
        away("Xxx", "Xx", 1);
        check.sentence("Answers the slot with the least distance, the lowest of several; REFUSED when the text is no "
            + "such wish; otherwise NONE when no slot has a pattern. The text is empty then, in any case.");
        SkeletonClock clock = new SkeletonClock();
        check.due("match u", Check.match(clock, "u"), NONE);
        text(clock, 0);
        check.due("match q", Check.match(clock, "q"), REFUSED);
        text(clock, 0);
        Check.define(clock, 5, "uuuu");
        Check.define(clock, 3, "uu");
        Check.define(clock, 1, "d");
        check.due("match u", Check.match(clock, "u"), 3);
        check.due("match uuuu", Check.match(clock, "uuuu"), 5);
        Check.define(clock, 4, "uu");
        Check.define(clock, 2, "uu");
        check.due("match uu", Check.match(clock, "uu"), 2);
        check.due("match dd", Check.match(clock, "dd"), 1);
        text(clock, 0);
        check.sentence("`int distance()`: The distance that the latest match that answered a slot found (others "
            + "leave it); NONE when there was none.");
        check.due("distance()", new SkeletonClock().distance(), NONE);
        SkeletonClock bare = new SkeletonClock();
        Check.match(bare, "u");
        Check.match(bare, "q");
        check.due("distance() after NONE and REFUSED", bare.distance(), NONE);
        check.due("distance() after dd", clock.distance(), 1);
        Check.match(clock, "q");
        check.due("distance() after REFUSED", clock.distance(), 1);
        Check.match(clock, "d");
        check.due("distance() after d", clock.distance(), 0);
    }

    private static void moment() {
        check.sentence("`boolean moment(long seconds, int nano, int minutes, int parts)`: Sets the moment. Seconds "
            + "and minutes are looked at whatever the parts: the local date and time are those of seconds plus 60 "
            + "times minutes (the exact sum; nothing wraps).");
        for (int parts = 1; parts <= 7; parts++) {
            SkeletonClock clock = new SkeletonClock();
            check.due("moment", clock.moment(-1L, 7, 90, parts), true);
            StringBuilder got = new StringBuilder();
            for (char letter : "uDHmsSX".toCharArray()) {
                got.append(clock.field(letter)).append(' ');
            }
            check.due("the fields with parts " + parts, got.toString(), "1970 1 1 29 59 7 90 ");
        }
        check.due("moment that wraps", new SkeletonClock().moment(Long.MAX_VALUE, 0, 1080, 7), false);
        check.due("moment that wraps", new SkeletonClock().moment(Long.MIN_VALUE, 0, -1080, 7), false);
        check.due("moment that wraps", new SkeletonClock().moment(Long.MAX_VALUE, 0, 1080, 2), false);
        check.sentence("Answers true; false when nano is not 0 .. 999999999, minutes not -1080 .. 1080, parts not 1 "
            + ".. 7, or the year of that date is not -999999999 .. 999999999.");
        SkeletonClock clock = new SkeletonClock();
        int[] nanos = {-1, 1000000000, Integer.MIN_VALUE, Integer.MAX_VALUE};
        int[] offsets = {-1081, 1081, Integer.MIN_VALUE, Integer.MAX_VALUE};
        int[] sums = {0, 8, -1, Integer.MIN_VALUE, Integer.MAX_VALUE};
        for (int nano : nanos) {
            check.due("nano " + nano, clock.moment(86400L, nano, 0, 7), false);
        }
        for (int minutes : offsets) {
            check.due("minutes " + minutes, clock.moment(86400L, 0, minutes, 7), false);
        }
        for (int parts : sums) {
            check.due("parts " + parts, clock.moment(86400L, 0, 0, parts), false);
        }
        long first = LocalDate.of(-999999999, 1, 1).toEpochDay() * 86400L;
        long behind = LocalDate.of(999999999, 12, 31).toEpochDay() * 86400L + 86400L;
        for (int parts = 1; parts <= 7; parts++) {
            check.due("before the first second", clock.moment(first - 1, 0, 0, parts), false);
            check.due("behind the last second", clock.moment(behind, 0, 0, parts), false);
            check.due("before it by the offset", clock.moment(first, 0, -1, parts), false);
            check.due("behind it by the offset", clock.moment(behind - 60, 0, 1, parts), false);
        }
        check.due("the moment from before", clock.field('d'), 1);
        check.due("the first second", clock.moment(first, 0, 0, 7), true);
        check.due("the first second by the offset", clock.moment(first - 64800, 0, 1080, 1), true);
        check.due("field u", clock.field('u'), -999999999);
        check.due("the last second", clock.moment(behind - 1, 999999999, 0, 7), true);
        check.due("the last second by the offset", clock.moment(behind - 1 + 64800, 999999999, -1080, 1), true);
        check.due("field u", clock.field('u'), 999999999);
    }

    private static void field() {
        check.sentence("`int field(char letter)`: The value of a field of the moment, by the code of its letter (X: "
            + "the offset), whether its part is there or not, as it was set or taken over (a part that was not read "
            + "is that of 1970-01-01, 0:00:00, 0); NONE for other codes (also for x).");
        String letters = "uYMdDEwHhamsSX";
        int[] set = {2026, 2026, 11, 15, 319, 7, 46, 13, 1, 1, 14, 15, 16, -60};
        int[] taken = {1970, 1970, 1, 1, 1, 4, 1, 13, 1, 1, 14, 0, 0, 0};
        for (int parts = 1; parts <= 7; parts++) {
            SkeletonClock clock = with("H:m");
            clock.moment(LocalDate.of(2026, 11, 15).toEpochDay() * 86400L + 14 * 3600 + 14 * 60 + 15, 16, -60, parts);
            for (int k = 0; k < set.length; k++) {
                check.due("field " + letters.charAt(k), clock.field(letters.charAt(k)), set[k]);
            }
            read(clock, "13:14", 0);
            clock.take();
            for (int k = 0; k < set.length; k++) {
                check.due("field " + letters.charAt(k) + " taken", clock.field(letters.charAt(k)), taken[k]);
            }
        }
        for (int first = 0; first <= 0xffff; first += 256) {
            SkeletonClock clock = new SkeletonClock();
            for (int c = first; c < first + 256; c++) {
                check.due("field " + c + " is NONE", clock.field((char) c) == NONE, letters.indexOf(c) < 0);
            }
        }
    }

    private static void page() {
        check.sentence("`int print(int slot)`: Prints the moment by the slot's pattern onto the page, instead of "
            + "what was there. Answers how many characters; NONE, the page staying, when a piece outside of sections "
            + "needs a field that is not there; REFUSED when slot is not 0 .. 5 or has no pattern.");
        SkeletonClock clock = with("EEEE");
        Check.define(clock, 1, "[a]");
        Check.define(clock, 2, "d");
        Check.define(clock, 3, "dH");
        clock.moment(0L, 0, 0, 1);
        check.due("print EEEE", clock.print(0), 8);
        check.due("the page", Check.page(clock), "Thursday");
        check.due("print dH", clock.print(3), NONE);
        check.due("the page that stayed", Check.page(clock), "Thursday");
        for (int slot : NO_SLOTS) {
            check.due("print(" + slot + ")", clock.print(slot), REFUSED);
        }
        check.due("print(4)", clock.print(4), REFUSED);
        check.due("the page that stayed", Check.page(clock), "Thursday");
        check.due("print d", clock.print(2), 1);
        check.due("the page", Check.page(clock), "1");
        check.due("print [a]", clock.print(1), 0);
        check.due("the page", Check.page(clock), "");
        check.sentence("`int charAt(int p)`: The code of the character at place p of the page; NONE when there is "
            + "none.");
        clock.print(0);
        int[] none = {Integer.MIN_VALUE, -1, 8, 9, 199, 200, Integer.MAX_VALUE};
        for (int p : none) {
            check.due("charAt(" + p + ")", clock.charAt(p), NONE);
        }
        for (int p = 0; p < 8; p++) {
            check.due("charAt(" + p + ")", clock.charAt(p), "Thursday".charAt(p));
        }
        check.sentence("`boolean copy()`: Makes the text what the page is. Answers true; false when the page has "
            + "more than 60 characters.");
        SkeletonClock wide = with("MMMM-".repeat(6));
        Check.define(wide, 1, "MMMM-".repeat(6) + "MMMM");
        Check.define(wide, 2, "MMMM-".repeat(6) + "MMMM-");
        wide.moment(LocalDate.of(2026, 9, 1).toEpochDay() * 86400L, 0, 0, 1);
        Check.type(wide, "u");
        check.due("print", wide.print(0), 60);
        check.due("copy()", wide.copy(), true);
        text(wide, 60);
        Check.type(wide, "uu");
        check.due("print", wide.print(1), 69);
        check.due("copy()", wide.copy(), false);
        text(wide, 2);
        check.due("copy() of nothing", new SkeletonClock().copy(), true);
        SkeletonClock year = with("uuuu");
        year.print(0);
        year.copy();
        check.due("read of the copy", year.read(0, 0, false), SkeletonClock.CLASH);
        SkeletonClock sixtyOne = with("MMMM-".repeat(6) + "-");
        sixtyOne.moment(LocalDate.of(2026, 9, 1).toEpochDay() * 86400L, 0, 0, 1);
        check.due("print", sixtyOne.print(0), 61);
        check.due("copy() of 61", sixtyOne.copy(), false);
    }

    private static void read() {
        check.sentence("`int read(int slot, int style, boolean loose)`: Reads the text by the slot's pattern and "
            + "resolves what is known. Answers NONE when there is a moment then, which is called the one read; the "
            + "place at which the reading fails; CLASH. The text is empty then, in any case. REFUSED, the text "
            + "staying, when slot is not 0 .. 5 or has no pattern, or style is not 0 .. 2.");
        SkeletonClock clock = with("H:m");
        check.due("read 7:8", read(clock, "7:8", 0), NONE);
        check.due("what was read", Check.latest(clock), "2 25680 0 0");
        text(clock, 0);
        check.due("read 7:x", read(clock, "7:x", 0), 2);
        text(clock, 0);
        check.due("read 7:60", read(clock, "7:60", 0), SkeletonClock.CLASH);
        text(clock, 0);
        Check.type(clock, "9:10");
        for (int slot : NO_SLOTS) {
            check.due("read(" + slot + ", 0, false)", clock.read(slot, 0, false), REFUSED);
        }
        for (int slot = 1; slot <= 5; slot++) {
            check.due("read(" + slot + ", 0, false)", clock.read(slot, 0, false), REFUSED);
        }
        for (int style : new int[] {Integer.MIN_VALUE, -1, 3, Integer.MAX_VALUE}) {
            check.due("read(0, " + style + ", false)", clock.read(0, style, false), REFUSED);
        }
        check.due("read of the text that stayed", clock.read(0, 0, false), NONE);
        check.due("what was read", Check.latest(clock), "2 33000 0 0");
    }

    private static void whatWasRead() {
        SkeletonClock clock = with("[u-M-d][ H:m:s.SSS][ XXX]");
        check.sentence("`int parts()`: The parts of the moment that was read last (a reading that fails or clashes, "
            + "and take(), leave it); 0 when none was.");
        check.due("parts()", clock.parts(), 0);
        String[] texts = {"2026-1-2", " 3:4:5.006", "2026-1-2 3:4:5.006", " +01:30", "2026-1-2 +01:30",
            " 3:4:5.006 +01:30", "2026-1-2 3:4:5.006 +01:30"};
        long day = LocalDate.of(2026, 1, 2).toEpochDay() * 86400L;
        for (int parts = 1; parts <= 7; parts++) {
            check.sentence("`int parts()`: The parts of the moment that was read last");
            check.due("read " + texts[parts - 1], read(clock, texts[parts - 1], 0), NONE);
            check.due("parts()", clock.parts(), parts);
            check.due("a reading that fails", read(clock, "x", 0), 0);
            check.due("a clash", read(clock, "2026-13-1", 0), SkeletonClock.CLASH);
            check.due("take()", clock.take(), true);
            check.due("parts() after these", clock.parts(), parts);
            check.sentence("`long seconds()`: The seconds of the moment that was read last, 0 when none was.");
            check.due("seconds()", clock.seconds(),
                (parts % 2 == 1 ? day : 0L) + ((parts & 2) != 0 ? 11045L : 0L) - (parts >= 4 ? 5400L : 0L));
            check.due("seconds() of a new object", new SkeletonClock().seconds(), 0L);
            check.sentence("`int nano()`: The billionths of the moment that was read last (0 without a time), 0 when "
                + "none was.");
            check.due("nano()", clock.nano(), (parts & 2) != 0 ? 6000000 : 0);
            check.due("nano() of a new object", new SkeletonClock().nano(), 0);
            check.sentence("`int minutes()`: The offset in minutes of the moment that was read last (0 without one), "
                + "0 when none was.");
            check.due("minutes()", clock.minutes(), parts >= 4 ? 90 : 0);
            check.due("minutes() of a new object", new SkeletonClock().minutes(), 0);
        }
    }

    private static void take() {
        check.sentence("`boolean take()`: The moment that was read last becomes the moment. Answers true; false when "
            + "none was, or the year of its local date is not -999999999 .. 999999999.");
        check.due("take() of nothing", new SkeletonClock().take(), false);
        SkeletonClock clock = with("[u-M-d][ H:m][ XXX]");
        read(clock, "2026-11-15 13:14 -01:30", 0);
        check.due("take()", clock.take(), true);
        check.due("print(0)", clock.print(0), 23);
        check.due("the page", Check.page(clock), "2026-11-15 13:14 -01:30");
        read(clock, " 7:8", 0);
        clock.take();
        clock.print(0);
        check.due("the page with a time alone", Check.page(clock), " 7:8");
        check.due("field u", clock.field('u'), 1970);
        check.due("read of the year 1000000000", read(clock, "999999999-13-1", 2), NONE);
        check.due("take()", clock.take(), false);
        check.due("read of the year -1000000000", read(clock, "-999999999-0-31", 2), NONE);
        check.due("take()", clock.take(), false);
        clock.print(0);
        check.due("the moment that stayed", Check.page(clock), " 7:8");
        check.due("read of the last local day", read(clock, "999999999-12-31 23:59 -18:00", 0), NONE);
        check.due("take()", clock.take(), true);
        check.due("field u", clock.field('u'), 999999999);
        check.due("read of the first local day", read(clock, "-999999999-1-1 0:0 +18:00", 0), NONE);
        check.due("take()", clock.take(), true);
        check.due("field u", clock.field('u'), -999999999);
        check.due("read behind it", read(clock, "999999999-12-31 24:0 +18:00", 2), NONE);
        check.due("take()", clock.take(), false);
    }

    public static void main(String[] args) {
        refusals();
        newObject();
        type();
        define();
        match();
        moment();
        field();
        page();
        read();
        whatWasRead();
        take();
        check.finish();
    }
}
