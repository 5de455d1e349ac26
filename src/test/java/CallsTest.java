/** For all promises: "An object is used for at most 512 calls after it has been made" - and answers each of them. */
public final class CallsTest {
    private static final int CALLS = 512;
    private static final Check check = new Check();

    private static void typing() {
        SkeletonClock clock = new SkeletonClock();
        for (int call = 1; call <= CALLS; call++) {
            check.due("type, call " + call, clock.type('-'), call <= 60);
        }
    }

    private static void defining() {
        SkeletonClock clock = new SkeletonClock();
        clock.type('-');
        for (int call = 2; call < CALLS; call += 2) {
            check.due("define, call " + call, clock.define(call / 2 % 6), SkeletonClock.NONE);
            check.due("type, call " + (call + 1), clock.type("uMdH-".charAt(call / 2 % 5)), true);
        }
        check.due("define, call 512", clock.define(0), SkeletonClock.NONE);
    }

    private static void faults() {
        SkeletonClock clock = new SkeletonClock();
        for (int call = 1; call < CALLS; call += 4) {
            Check.type(clock, "[d-");
            check.due("define, call " + (call + 3), clock.define(0), 3);
        }
    }

    private static void matching() {
        SkeletonClock clock = new SkeletonClock();
        clock.type('u');
        clock.define(5);
        for (int call = 3; call < CALLS; call += 3) {
            Check.type(clock, "M");
            check.due("match, call " + (call + 1), clock.match(), 5);
            check.due("distance, call " + (call + 2), clock.distance(), 2000);
        }
    }

    private static void printing() {
        SkeletonClock clock = new SkeletonClock();
        Check.define(clock, 0, "uYuYuYuYuYuYuYuYuYuY");
        for (int call = 22; call < CALLS; call += 2) {
            boolean far = call % 4 == 0;
            check.due("moment, call " + call, clock.moment(far ? -31557014135596800L : 0L, 0, 0, 1), true);
            check.due("print, call " + (call + 1), clock.print(0), far ? 200 : 80);
        }
        check.due("charAt, call 512", clock.charAt(79), '0');
    }

    private static void reading() {
        SkeletonClock clock = new SkeletonClock();
        Check.define(clock, 0, "[[u-]M-]d[-H]");
        clock.print(0);
        for (int call = 15; call + 3 <= CALLS; call += 3) {
            check.due("copy, call " + call, clock.copy(), true);
            check.due("read, call " + (call + 1), clock.read(0, call % 3, true), SkeletonClock.NONE);
            check.due("take, call " + (call + 2), clock.take(), true);
        }
        check.due("parts, call 512", clock.parts(), 3);
    }

    private static void asking() {
        SkeletonClock clock = new SkeletonClock();
        for (int call = 1; call <= CALLS; call += 8) {
            check.due("charAt, call " + call, clock.charAt(0), SkeletonClock.NONE);
            check.due("field, call " + (call + 1), clock.field('u'), 1970);
            check.due("match, call " + (call + 2), clock.match(), SkeletonClock.NONE);
            check.due("take, call " + (call + 3), clock.take(), false);
            check.due("copy, call " + (call + 4), clock.copy(), true);
            check.due("seconds, call " + (call + 5), clock.seconds(), 0L);
            check.due("read, call " + (call + 6), clock.read(0, 0, false), SkeletonClock.REFUSED);
            check.due("print, call " + (call + 7), clock.print(5), SkeletonClock.REFUSED);
        }
    }

    public static void main(String[] args) {
        check.sentence("An object is used for at most 512 calls after it has been made");
        typing();
        defining();
        faults();
        matching();
        printing();
        reading();
        asking();
        check.finish();
    }
}
