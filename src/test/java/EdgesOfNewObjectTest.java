/** Promise 1: each boundary case that the document names for a new object. */
public final class EdgesOfNewObjectTest {
    private static final Check check = new Check();

    private static void noText() {
        check.sentence("No text");
        SkeletonClock clock = new SkeletonClock();
        check.due("define(0)", clock.define(0), SkeletonClock.NONE);
        check.due("print(0) by the pattern without characters", clock.print(0), 0);
        check.due("characters of the text", Check.textLength(new SkeletonClock()), 0);
        clock = new SkeletonClock();
        check.due("match()", clock.match(), SkeletonClock.NONE);
        Check.define(clock, 0, "-");
        check.due("read by -", clock.read(0, 0, false), 0);
    }

    private static void noPatterns() {
        check.sentence("no patterns");
        SkeletonClock clock = new SkeletonClock();
        Check.type(clock, "1");
        for (int slot = -1; slot <= 6; slot++) {
            check.due("print(" + slot + ")", clock.print(slot), SkeletonClock.REFUSED);
            check.due("read(" + slot + ", 0, false)", clock.read(slot, 0, false), SkeletonClock.REFUSED);
        }
        check.due("characters of the text", Check.textLength(clock), 1);
        check.due("match of nothing", clock.match(), SkeletonClock.NONE);
        check.due("match u", Check.match(clock, "u"), SkeletonClock.NONE);
        for (int slot = 0; slot <= 5; slot++) {
            clock = new SkeletonClock();
            clock.define(slot);
            for (int other = 0; other <= 5; other++) {
                check.due("print(" + other + ")", clock.print(other), other == slot ? 0 : SkeletonClock.REFUSED);
            }
        }
    }

    private static void emptyPage() {
        check.sentence("an empty page");
        SkeletonClock clock = new SkeletonClock();
        for (int p : new int[] {Integer.MIN_VALUE, -1, 0, 1, 59, 60, 199, 200, Integer.MAX_VALUE}) {
            check.due("charAt(" + p + ")", clock.charAt(p), SkeletonClock.NONE);
        }
        Check.type(clock, "u");
        check.due("copy()", clock.copy(), true);
        check.due("characters of the text", Check.textLength(clock), 0);
    }

    private static void theMoment() {
        check.sentence("the moment is 1970-01-01, 0:00:00, offset 0, with all three parts");
        check.due("the date", Check.printed(new SkeletonClock(), "u-M-d D EEEE Y w"), "1970-1-1 1 Thursday 1970 1");
        check.due("the time", Check.printed(new SkeletonClock(), "H h a m s S"), "0 12 AM 0 0 0");
        check.due("the offset", Check.printed(new SkeletonClock(), "X xxx"), "Z +00:00");
    }

    private static void nothingWasRead() {
        check.sentence("nothing was read");
        SkeletonClock clock = new SkeletonClock();
        check.due("parts, seconds, nano and minutes", Check.latest(clock), "0 0 0 0");
        check.due("take()", clock.take(), false);
        check.due("the moment after take()", Check.printed(clock, "u[H][X]"), "19700Z");
        check.due("parts, seconds, nano and minutes after take()", Check.latest(clock), "0 0 0 0");
        Check.define(clock, 1, "H");
        Check.type(clock, "q");
        check.due("a reading that fails", clock.read(1, 0, false), 0);
        Check.type(clock, "24");
        check.due("a clash", clock.read(1, 0, false), SkeletonClock.CLASH);
        check.due("a reading that is refused", clock.read(1, 3, false), SkeletonClock.REFUSED);
        check.due("parts, seconds, nano and minutes after these", Check.latest(clock), "0 0 0 0");
        check.due("take() after these", clock.take(), false);
        check.sentence("NONE when there was none");
        check.due("distance()", new SkeletonClock().distance(), SkeletonClock.NONE);
    }

    private static void objectsAreApart() {
        check.sentence("A new object");
        SkeletonClock first = new SkeletonClock();
        Check.define(first, 0, "H");
        first.print(0);
        Check.match(first, "H");
        Check.type(first, "5");
        first.read(0, 0, false);
        first.moment(86400L, 1, 1, 1);
        Check.type(first, "abc");
        SkeletonClock second = new SkeletonClock();
        check.due("print(0)", second.print(0), SkeletonClock.REFUSED);
        check.due("charAt(0)", second.charAt(0), SkeletonClock.NONE);
        check.due("distance()", second.distance(), SkeletonClock.NONE);
        check.due("parts, seconds, nano and minutes", Check.latest(second), "0 0 0 0");
        check.due("field d", second.field('d'), 1);
        check.due("characters of the text", Check.textLength(second), 0);
    }

    public static void main(String[] args) {
        noText();
        noPatterns();
        emptyPage();
        theMoment();
        nothingWasRead();
        objectsAreApart();
        check.finish();
    }
}
