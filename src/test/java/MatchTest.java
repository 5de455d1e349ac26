/** Promises 4 and 5: match and distance. */
public final class MatchTest {
    private static final Check check = new Check();

    private static void away(String pattern, String wish, int want) {
        SkeletonClock clock = new SkeletonClock();
        Check.define(clock, 2, pattern);
        check.due("match " + wish + " by " + pattern, Check.match(clock, wish), 2);
        check.due("distance of " + wish + " from " + pattern, clock.distance(), want);
    }

    private static void distances() {
        away("", "", 0);
        away("'uM'-''", "", 0);
        away("'uM'", "u", 1000);
        away("u", "", 1000);
        away("uuuu-MM-dd", "uuuuMMdd", 0);
        away("uuuu-MM-dd", "dMu", 5);
        away("uuuu-MM-dd", "HHmm", 5000);
        away("M", "MM", 1);
        away("MM", "M", 1);
        away("MM", "MMM", 101);
        away("MMM", "MM", 101);
        away("MMM", "MMMM", 1);
        away("M", "MMMM", 103);
        away("MMMM", "M", 103);
        away("D", "DDD", 2);
        away("EEEE", "EEE", 1);
        away("SSSSSSSSS", "S", 8);
        away("X", "x", 2000);
        away("XXX", "X", 2);
        away("xxx", "x", 2);
        away("h", "H", 2000);
        away("[d]dd", "d", 0);
        away("dd[d]", "d", 1);
        away("[[MMM]]M", "MMM", 0);
        away("uYMdDEEEwHhamsSXx", "", 15000);
        away("uYMdDEEEwHhamsSXx", "xXSsmahHwEEEDdMYu", 0);
        away("", "uYMdDEEEwHhamsSXx", 15000);
    }

    private static void choice() {
        SkeletonClock clock = new SkeletonClock();
        Check.define(clock, 5, "uuuu");
        Check.define(clock, 3, "uu");
        Check.define(clock, 1, "HH");
        check.due("match u", Check.match(clock, "u"), 3);
        check.due("distance", clock.distance(), 1);
        check.due("match uuuu", Check.match(clock, "uuuu"), 5);
        check.due("match H", Check.match(clock, "H"), 1);
        check.due("the lowest of several", Check.match(clock, "E".repeat(3)), 1);
        check.due("distance", clock.distance(), 2000);
        Check.define(clock, 4, "uuuu");
        check.due("the lowest of two alike", Check.match(clock, "uuuu"), 4);
        check.due("the empty wish", Check.match(clock, ""), 1);
        check.due("distance", clock.distance(), 1000);
    }

    private static void refusals() {
        SkeletonClock clock = new SkeletonClock();
        check.due("no slot", Check.match(clock, "u"), SkeletonClock.NONE);
        check.due("no wish and no slot", Check.match(clock, "q"), SkeletonClock.REFUSED);
        check.due("no distance yet", clock.distance(), SkeletonClock.NONE);
        Check.define(clock, 0, "u");
        Check.match(clock, "uu");
        check.due("distance", clock.distance(), 1);
        String[] wrong = {"q", "uuu", "MMMMM", "ddd", "DD", "EE", "aa", "uMu", "u-", "-", " ", "u M", "[u]", "[]",
            "''", "'u'", "'", "]", "[", "u1", "SSSSSSSSSS", "XXXX", "uYMdDEEEwHhamsSXxu"};
        for (String text : wrong) {
            check.due("match " + text, Check.match(clock, text), SkeletonClock.REFUSED);
            check.due("the text went after " + text, clock.define(5), SkeletonClock.NONE);
            check.due("distance after " + text, clock.distance(), 1);
        }
        check.due("the slot stayed", clock.print(0), 4);
        Check.match(clock, "uM");
        check.due("the text went", Check.textLength(clock), 0);
    }

    public static void main(String[] args) {
        distances();
        choice();
        refusals();
        check.finish();
    }
}
