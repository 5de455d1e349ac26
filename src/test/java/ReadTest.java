/** Promises 11 to 15: the answers of read, and parts, seconds, nano and minutes after it. */
public final class ReadTest {
    private static final Check check = new Check();

    private static void refusals() {
        SkeletonClock clock = new SkeletonClock();
        Check.define(clock, 1, "H:m");
        Check.type(clock, "5:6");
        int[] ends = {Integer.MIN_VALUE, -1, 0, 2, 5, 6, Integer.MAX_VALUE};
        for (int slot : ends) {
            check.due("read(" + slot + ", 0)", clock.read(slot, 0, false), SkeletonClock.REFUSED);
        }
        for (int style : new int[] {Integer.MIN_VALUE, -1, 3, Integer.MAX_VALUE}) {
            check.due("read(1, " + style + ")", clock.read(1, style, true), SkeletonClock.REFUSED);
        }
        check.due("nothing was read", Check.latest(clock), "0 0 0 0");
        check.due("the text stayed", clock.read(1, 0, false), SkeletonClock.NONE);
        check.due("what was read", Check.latest(clock), "2 18360 0 0");
        check.due("the text went", Check.textLength(clock), 0);
    }

    private static void whatStays() {
        SkeletonClock clock = new SkeletonClock();
        Check.define(clock, 0, "uuuu-MM-dd HH:mm:ss.SSS xxx");
        Check.type(clock, "2023-11-14 23:43:20.987 +01:30");
        check.due("read", clock.read(0, 0, false), SkeletonClock.NONE);
        String want = "7 1700000000 987000000 90";
        check.due("what was read", Check.latest(clock), want);
        Check.type(clock, "2023-11-14 23:43:2");
        check.due("a failure", clock.read(0, 0, false), 17);
        check.due("what was read stayed", Check.latest(clock), want);
        check.due("the text went", Check.textLength(clock), 0);
        Check.type(clock, "2023-02-30 23:43:20.987 +01:30");
        check.due("a clash", clock.read(0, 0, false), SkeletonClock.CLASH);
        check.due("what was read stayed", Check.latest(clock), want);
        check.due("the text went", Check.textLength(clock), 0);
        clock.moment(5L, 5, 5, 5);
        check.due("what was read stayed", Check.latest(clock), want);
        check.due("take", clock.take(), true);
        check.due("what was read stayed", Check.latest(clock), want);
        check.due("a refusal", clock.read(1, 0, false), SkeletonClock.REFUSED);
        check.due("what was read stayed", Check.latest(clock), want);
        Check.define(clock, 0, "H");
        Check.type(clock, "1");
        check.due("read", clock.read(0, 0, false), SkeletonClock.NONE);
        check.due("nothing is left of the one before", Check.latest(clock), "2 3600 0 0");
        Check.define(clock, 0, "m");
        Check.type(clock, "1");
        check.due("read", clock.read(0, 0, false), SkeletonClock.NONE);
        check.due("nothing is known from before", Check.latest(clock), "2 60 0 0");
        Check.define(clock, 0, "u-D");
        Check.type(clock, "1-1");
        check.due("read", clock.read(0, 0, false), SkeletonClock.NONE);
        check.due("a date alone", Check.latest(clock), "1 -62135596800 0 0");
        check.due("reading does not set the moment", clock.field('u'), 2023);
    }

    private static void failuresAreForgotten() {
        SkeletonClock clock = new SkeletonClock();
        Check.define(clock, 0, "H:m-");
        Check.define(clock, 1, "s");
        Check.type(clock, "5:6");
        check.due("a failure", clock.read(0, 0, false), 3);
        Check.type(clock, "7");
        check.due("read", clock.read(1, 0, false), SkeletonClock.NONE);
        check.due("what was read", Check.latest(clock), "2 7 0 0");
        Check.define(clock, 2, "s");
        Check.type(clock, "61");
        check.due("a clash", clock.read(2, 1, false), SkeletonClock.CLASH);
        Check.type(clock, "61");
        check.due("read", clock.read(2, 2, false), SkeletonClock.NONE);
        check.due("what was read", Check.latest(clock), "2 61 0 0");
        Check.define(clock, 3, "'a'H");
        Check.type(clock, "A5");
        check.due("loose", clock.read(3, 0, true), SkeletonClock.NONE);
        Check.type(clock, "A5");
        check.due("not loose any more", clock.read(3, 0, false), 0);
    }

    private static void readingsAreApart() {
        SkeletonClock clock = new SkeletonClock();
        Check.define(clock, 0, "h-[[a]]");
        Check.type(clock, "3-PM");
        check.due("h and a are used", clock.read(0, 0, false), SkeletonClock.NONE);
        Check.define(clock, 1, "H h");
        Check.type(clock, "13 2");
        check.due("h is not used here", clock.read(1, 0, false), SkeletonClock.CLASH);
        Check.type(clock, "3-PM");
        clock.read(0, 0, false);
        Check.type(clock, "q");
        check.due("the sections of the one before are closed", clock.read(1, 0, false), 0);
        check.due("what was read", Check.latest(clock), "2 54000 0 0");
        Check.define(clock, 2, "u-D");
        Check.type(clock, "2024-1");
        clock.read(2, 0, false);
        check.due("the date", clock.seconds(), 1704067200L);
        Check.type(clock, "13 1");
        clock.read(1, 0, false);
        check.due("nothing of it is in a time", clock.seconds(), 46800L);
    }

    public static void main(String[] args) {
        refusals();
        whatStays();
        failuresAreForgotten();
        readingsAreApart();
        check.finish();
    }
}
