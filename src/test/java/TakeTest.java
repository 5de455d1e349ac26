/** Promise 16: take. */
public final class TakeTest {
    private static final Check check = new Check();

    private static SkeletonClock after(String pattern, String text) {
        SkeletonClock clock = new SkeletonClock();
        clock.moment(1700000000L, 987654321, 90, 7);
        Check.define(clock, 0, pattern);
        Check.type(clock, text);
        check.due("read " + text, clock.read(0, 2, false), SkeletonClock.NONE);
        return clock;
    }

    private static void taken(String pattern, String text, String want) {
        SkeletonClock clock = after(pattern, text);
        check.due("take " + text, clock.take(), true);
        StringBuilder fields = new StringBuilder();
        for (char letter : "uMdHmsSX".toCharArray()) {
            fields.append(clock.field(letter)).append(' ');
        }
        check.due("fields of " + text, fields.toString().trim(), want);
    }

    private static void refused(String pattern, String text) {
        SkeletonClock clock = after(pattern, text);
        check.due("take " + text, clock.take(), false);
        check.due("the moment stayed", Check.printed(clock, "uuuu HH S X"), "2023 23 9 +0130");
        check.due("what was read stayed", clock.parts(), 1);
    }

    private static void parts() {
        SkeletonClock clock = after("H", "5");
        clock.take();
        check.due("a time alone", Check.printed(clock, "[u]H[X]"), "5");
        clock = after("X", "+05");
        clock.take();
        check.due("an offset alone", Check.printed(clock, "[u][H]X"), "+05");
        clock = after("u-D", "2024-1");
        clock.take();
        check.due("a date alone", Check.printed(clock, "u[H][X]"), "2024");
        check.due("taken twice", clock.take(), true);
        clock.moment(0L, 0, 0, 2);
        check.due("taken again", clock.take(), true);
        check.due("the date again", clock.field('u'), 2024);
    }

    public static void main(String[] args) {
        check.due("nothing was read", new SkeletonClock().take(), false);
        taken("u-M-d H:m:s.S xx", "2024-2-29 1:2:3.4 -0500", "2024 2 29 1 2 3 400000000 -300");
        taken("u-M-d", "2024-2-29", "2024 2 29 0 0 0 0 0");
        taken("H:m", "23:5", "1970 1 1 23 5 0 0 0");
        taken("X", "+1800", "1970 1 1 0 0 0 0 1080");
        taken("X", "-1800", "1970 1 1 0 0 0 0 -1080");
        taken("u-M-dX", "2024-2-29+18", "2024 2 29 0 0 0 0 1080");
        taken("u-M-dX", "999999999-12-31-18", "999999999 12 31 0 0 0 0 -1080");
        taken("u-M-dX", "-999999999-1-1+18", "-999999999 1 1 0 0 0 0 1080");
        refused("u-M-d", "999999999-13-1");
        refused("u-M-d", "999999999-12-32");
        refused("u-M-d", "-999999999-1-0");
        refused("u-D", "-999999999-0");
        parts();
        check.finish();
    }
}
