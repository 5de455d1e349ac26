/** Promise 6: moment. */
public final class MomentTest {
    private static final long LAST = 31556889832780799L;
    private static final long FIRST = -31557014135596800L;
    private static final Check check = new Check();

    private static void answers(long seconds, int nano, int minutes, int parts, boolean want) {
        SkeletonClock clock = new SkeletonClock();
        clock.moment(86399L, 5, 0, 3);
        String call = "moment(" + seconds + ", " + nano + ", " + minutes + ", " + parts + ")";
        check.due(call, clock.moment(seconds, nano, minutes, parts), want);
        if (!want) {
            check.due("H stayed after " + call, clock.field('H'), 23);
            check.due("S stayed after " + call, clock.field('S'), 5);
            check.due("X stayed after " + call, clock.field('X'), 0);
            check.due("the parts stayed after " + call, Check.printed(clock, "u[H][X]"), "197023");
        }
    }

    public static void main(String[] args) {
        answers(0L, 0, 0, 1, true);
        answers(0L, 999999999, 1080, 7, true);
        answers(0L, 0, -1080, 4, true);
        answers(0L, -1, 0, 7, false);
        answers(0L, 1000000000, 0, 7, false);
        answers(0L, Integer.MIN_VALUE, 0, 7, false);
        answers(0L, 0, 1081, 7, false);
        answers(0L, 0, -1081, 7, false);
        answers(0L, 0, Integer.MIN_VALUE, 7, false);
        answers(0L, 0, Integer.MAX_VALUE, 7, false);
        answers(0L, 0, 0, 0, false);
        answers(0L, 0, 0, 8, false);
        answers(0L, 0, 0, -1, false);
        for (int parts = 1; parts <= 7; parts++) {
            answers(LAST, 0, 0, parts, true);
            answers(LAST + 1, 0, 0, parts, false);
            answers(LAST, 0, 1, parts, false);
            answers(LAST + 60, 0, -1, parts, true);
            answers(LAST + 61, 0, -1, parts, false);
            answers(FIRST, 0, 0, parts, true);
            answers(FIRST - 1, 0, 0, parts, false);
            answers(FIRST, 0, -1, parts, false);
            answers(FIRST - 64800, 0, 1080, parts, true);
            answers(FIRST - 64801, 0, 1080, parts, false);
        }
        answers(Long.MAX_VALUE, 0, 1080, 7, false);
        answers(Long.MAX_VALUE, 0, -1080, 7, false);
        answers(Long.MIN_VALUE, 0, -1080, 7, false);
        answers(Long.MIN_VALUE, 0, 1080, 7, false);
        SkeletonClock clock = new SkeletonClock();
        clock.moment(LAST, 1, 0, 7);
        check.due("the last year", clock.field('u'), 999999999);
        check.due("the last second", clock.field('s'), 59);
        clock.moment(FIRST, 1, 0, 7);
        check.due("the first year", clock.field('u'), -999999999);
        check.due("nothing was read", clock.parts(), 0);
        check.due("nothing to take over", clock.take(), false);
        check.finish();
    }
}
