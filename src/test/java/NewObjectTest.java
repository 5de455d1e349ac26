/** Promise 1: a new object. */
public final class NewObjectTest {
    public static void main(String[] args) {
        Check check = new Check();
        SkeletonClock clock = new SkeletonClock();
        check.due("distance()", clock.distance(), SkeletonClock.NONE);
        check.due("charAt(0)", clock.charAt(0), SkeletonClock.NONE);
        check.due("parts()", clock.parts(), 0);
        check.due("seconds()", clock.seconds(), 0L);
        check.due("nano()", clock.nano(), 0);
        check.due("minutes()", clock.minutes(), 0);
        check.due("take()", clock.take(), false);
        for (int slot = 0; slot < 6; slot++) {
            check.due("print(" + slot + ")", clock.print(slot), SkeletonClock.REFUSED);
            check.due("read(" + slot + ")", clock.read(slot, 0, false), SkeletonClock.REFUSED);
        }
        check.due("match()", clock.match(), SkeletonClock.NONE);
        String letters = "uMdDEwYHhamsSX";
        int[] values = {1970, 1, 1, 1, 4, 1, 1970, 0, 12, 0, 0, 0, 0, 0};
        for (int k = 0; k < values.length; k++) {
            check.due("field " + letters.charAt(k), clock.field(letters.charAt(k)), values[k]);
        }
        check.due("text", Check.textLength(clock), 0);
        check.due("all parts", Check.printed(clock, "uuuu-MM-dd HH:mm:ss.S xxx"), "1970-01-01 00:00:00.0 +00:00");
        check.finish();
    }
}
