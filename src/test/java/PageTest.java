/** Promises 9 and 10: charAt and copy. */
public final class PageTest {
    private static final Check check = new Check();

    private static void places() {
        SkeletonClock clock = new SkeletonClock();
        Check.define(clock, 0, "uuuu-MM");
        clock.print(0);
        String want = "1970-01";
        for (int p = 0; p < want.length(); p++) {
            check.due("charAt(" + p + ")", clock.charAt(p), want.charAt(p));
        }
        for (int p : new int[] {-1, -2, 7, 8, 60, 219, 220, 1000, Integer.MIN_VALUE, Integer.MAX_VALUE}) {
            check.due("charAt(" + p + ")", clock.charAt(p), SkeletonClock.NONE);
        }
        Check.define(clock, 0, "M");
        clock.print(0);
        check.due("charAt(1) of a shorter page", clock.charAt(1), SkeletonClock.NONE);
        Check.define(clock, 0, "");
        clock.print(0);
        check.due("charAt(0) of an empty page", clock.charAt(0), SkeletonClock.NONE);
    }

    private static void copies() {
        SkeletonClock clock = new SkeletonClock();
        Check.type(clock, "u");
        check.due("an empty page", clock.copy(), true);
        check.due("the text is empty", Check.textLength(clock), 0);
        Check.define(clock, 0, "uuuu-MM-dd");
        clock.print(0);
        Check.type(clock, "12345");
        check.due("copy()", clock.copy(), true);
        check.due("the page stayed", Check.page(clock), "1970-01-01");
        check.due("the text is the page", clock.read(0, 0, false), SkeletonClock.NONE);
        clock.copy();
        check.due("its length", Check.textLength(clock), 10);
        clock.copy();
        clock.type('!');
        check.due("typing goes on behind it", clock.read(0, 0, false), 10);
        check.due("the page did not grow", Check.page(clock), "1970-01-01");
    }

    private static void longPages() {
        SkeletonClock clock = new SkeletonClock();
        clock.moment(java.time.LocalDate.of(2024, 9, 4).toEpochDay() * 86400L, 0, 0, 7);
        String sixty = "MMMMEEEEMMMMEEEEMMMMEEEE" + "dduu" + "MM";
        Check.define(clock, 0, sixty);
        check.due("print", clock.print(0), 60);
        check.due("copy of 60", clock.copy(), true);
        check.due("the text is full", clock.type('a'), false);
        check.due("the text is the page", clock.read(0, 0, false), SkeletonClock.NONE);
        Check.define(clock, 0, sixty + "-");
        check.due("print", clock.print(0), 61);
        Check.type(clock, "123");
        check.due("copy of 61", clock.copy(), false);
        check.due("the text stayed", Check.textLength(clock), 3);
    }

    public static void main(String[] args) {
        places();
        copies();
        longPages();
        check.finish();
    }
}
