/** Promises 12 to 16: each boundary case that the document names for what was read, and for take. */
public final class EdgesOfTakeTest {
    private static final Check check = new Check();
    private static final String[] PATTERNS = {"u-M-d", "H:m:s.SSS", "XXX"};
    private static final String[] TEXTS = {"2024-2-29", "23:59:58.987", "+05:30"};

    private static int read(SkeletonClock clock, String pattern, String text, int style) {
        Check.define(clock, 0, pattern);
        Check.type(clock, text);
        return clock.read(0, style, false);
    }

    private static void noneWasRead() {
        check.sentence("0 when none was");
        SkeletonClock clock = new SkeletonClock();
        clock.moment(1700000000L, 987654321, 90, 7);
        check.due("parts()", clock.parts(), 0);
        check.due("seconds()", clock.seconds(), 0L);
        check.due("nano()", clock.nano(), 0);
        check.due("minutes()", clock.minutes(), 0);
        check.due("a failure", read(clock, "H", "q", 0), 0);
        check.due("a clash", read(clock, "H", "24", 0), SkeletonClock.CLASH);
        check.due("a clash of a date", read(clock, "u-M-d X", "2023-2-29 +01", 0), SkeletonClock.CLASH);
        check.due("a clash of a field not used", read(clock, "u-M-d EEE X", "2024-2-29 Mon +01", 0), SkeletonClock.CLASH);
        check.due("parts, seconds, nano and minutes after these", Check.latest(clock), "0 0 0 0");
        check.sentence("false when none was");
        check.due("take()", clock.take(), false);
        check.due("field u after it", clock.field('u'), 2023);
        check.due("parts, seconds, nano and minutes after it", Check.latest(clock), "0 0 0 0");
    }

    private static void partsThatWereRead() {
        check.sentence("The parts of the moment that was read last; billionths (0 without a time); offset (0 without one)");
        String[] wants = {"1 1709164800 0 0", "2 86398 987000000 0", "3 1709251198 987000000 0", "4 -19800 0 330",
            "5 1709145000 0 330", "6 66598 987000000 330", "7 1709231398 987000000 330"};
        SkeletonClock clock = new SkeletonClock();
        for (int parts = 7; parts >= 1; parts--) {
            StringBuilder pattern = new StringBuilder();
            StringBuilder text = new StringBuilder();
            for (int k = 0; k < 3; k++) {
                if ((parts >> k & 1) == 1) {
                    pattern.append(PATTERNS[k]).append(' ');
                    text.append(TEXTS[k]).append(' ');
                }
            }
            check.due("read " + text, read(clock, pattern.toString(), text.toString(), 0), SkeletonClock.NONE);
            check.due("what was read of " + text, Check.latest(clock), wants[parts - 1]);
            check.due("take()", clock.take(), true);
            check.due("the parts taken over", Check.printed(clock, "[d][H][X]"),
                ((parts & 1) != 0 ? "29" : "") + ((parts & 2) != 0 ? "23" : "") + ((parts & 4) != 0 ? "+0530" : ""));
        }
    }

    private static void whatLeavesIt() {
        check.sentence("a reading that fails or clashes, and take(), leave it");
        SkeletonClock clock = new SkeletonClock();
        read(clock, "u-M-d H:m:s.SSS XXX", "2024-2-29 23:59:58.987 +05:30", 0);
        String want = "7 1709231398 987000000 330";
        check.due("what was read", Check.latest(clock), want);
        check.due("a failure at 0", read(clock, "H", "q", 0), 0);
        check.due("what was read", Check.latest(clock), want);
        check.due("a failure behind the last piece", read(clock, "u-M-d H X", "2020-1-1 5 Z!", 0), 12);
        check.due("what was read", Check.latest(clock), want);
        check.due("a clash of nothing", read(clock, "", "", 0), SkeletonClock.CLASH);
        check.due("what was read", Check.latest(clock), want);
        check.due("a clash of a date", read(clock, "u-M-d H X", "2020-1-32 5 Z", 1), SkeletonClock.CLASH);
        check.due("what was read", Check.latest(clock), want);
        check.due("a clash of a time", read(clock, "u-M-d H X", "2020-1-1 24 Z", 1), SkeletonClock.CLASH);
        check.due("what was read", Check.latest(clock), want);
        check.due("a clash of a field not used", read(clock, "u-M-d H a X", "2020-1-1 5 PM Z", 2), SkeletonClock.CLASH);
        check.due("what was read", Check.latest(clock), want);
        check.due("a style that is refused", read(clock, "H", "5", 3), SkeletonClock.REFUSED);
        check.due("characters of the text that stayed", Check.textLength(clock), 1);
        check.due("what was read", Check.latest(clock), want);
        check.due("take()", clock.take(), true);
        check.due("what was read", Check.latest(clock), want);
        check.due("moment", clock.moment(0L, 1, 1, 1), true);
        check.due("what was read", Check.latest(clock), want);
        check.due("take() once more", clock.take(), true);
        check.due("the moment", Check.printed(clock, "u-M-d H:m:s.SSS XXX"), "2024-2-29 23:59:58.987 +05:30");
        check.due("what was read", Check.latest(clock), want);
    }

    private static void taken(String pattern, String text, boolean want) {
        SkeletonClock clock = new SkeletonClock();
        clock.moment(1700000000L, 987654321, 90, 5);
        check.due("read " + text, read(clock, pattern, text, 2), SkeletonClock.NONE);
        String latest = Check.latest(clock);
        check.due("take " + text, clock.take(), want);
        check.due("what was read after it", Check.latest(clock), latest);
        if (!want) {
            check.due("the moment after it", Check.printed(clock, "u-M-d[ H] X"), "2023-11-14 +0130");
            check.due("S after it", clock.field('S'), 987654321);
        } else {
            check.due("X after it", clock.field('X'), clock.minutes());
            check.due("S after it", clock.field('S'), clock.nano());
        }
    }

    private static void years() {
        check.sentence("false when [..] the year of its local date is not -999999999 .. 999999999");
        taken("u-M-d", "999999999-12-31", true);
        taken("u-M-d", "999999999-12-32", false);
        taken("u-M-d", "999999999-13-0", true);
        taken("u-M-d", "999999999-13-1", false);
        taken("u-M-d", "999999999-99-99", false);
        taken("u-M-d", "-999999999-1-1", true);
        taken("u-M-d", "-999999999-1-0", false);
        taken("u-M-d", "-999999999-0-31", false);
        taken("u-M-d", "-999999999-0-32", true);
        taken("u-D", "999999999-365", true);
        taken("u-D", "999999999-366", false);
        taken("u-D", "999999999-999", false);
        taken("u-D", "-999999999-1", true);
        taken("u-D", "-999999999-0", false);
        taken("Y w EEE", "999999999 52 Fri", true);
        taken("Y w EEE", "999999999 52 Sat", false);
        taken("Y w EEE", "-999999999 1 Mon", true);
        taken("Y w EEE", "-999999999 0 Sun", false);
        taken("u-M-d H:m:s", "999999999-12-31 23:59:59", true);
        taken("u-M-d H:m:s", "999999999-12-31 23:59:60", false);
        taken("u-M-d H:m:s", "999999999-12-31 24:0:0", false);
        // The local date counts, not the one at offset 0.
        taken("u-M-d H X", "999999999-12-31 23 -18", true);
        taken("u-M-d H X", "-999999999-1-1 0 +18", true);
        taken("u-M-d H X", "999999999-12-31 24 +18", false);
        taken("u-M-d H X", "-999999999-1-0 23 -18", false);
        taken("u-M-d X", "999999999-12-31 -18", true);
        taken("H", "99", true);
        taken("X", "+18", true);
        taken("X", "-18", true);
    }

    private static void theLatestCounts() {
        check.sentence("The moment that was read last becomes the moment.");
        SkeletonClock clock = new SkeletonClock();
        read(clock, "u-D", "2024-1", 0);
        read(clock, "u-D", "999999999-366", 2);
        check.due("take() of a date too far", clock.take(), false);
        check.due("field u", clock.field('u'), 1970);
        read(clock, "H", "5", 0);
        check.due("take()", clock.take(), true);
        check.due("field H", clock.field('H'), 5);
        check.due("field u", clock.field('u'), 1970);
        read(clock, "m", "7", 0);
        check.due("field H before take()", clock.field('H'), 5);
        check.due("take()", clock.take(), true);
        check.due("field H", clock.field('H'), 0);
        check.due("field m", clock.field('m'), 7);
    }

    public static void main(String[] args) {
        noneWasRead();
        partsThatWereRead();
        whatLeavesIt();
        years();
        theLatestCounts();
        check.finish();
    }
}
