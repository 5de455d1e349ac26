/** Promises 4 and 5: each boundary case that the document names for match and distance. */
public final class EdgesOfMatchTest {
    private static final Check check = new Check();
    private static final String ALL = "uYMdDEEEwHhamsSXx";

    private static SkeletonClock with(String... patterns) {
        SkeletonClock clock = new SkeletonClock();
        for (int slot = 0; slot < patterns.length; slot++) {
            if (patterns[slot] != null) {
                check.due("define " + patterns[slot], Check.define(clock, slot, patterns[slot]), SkeletonClock.NONE);
            }
        }
        return clock;
    }

    private static void away(String pattern, String wish, int want) {
        SkeletonClock clock = with(pattern);
        check.due("match " + wish + " by " + pattern, Check.match(clock, wish), 0);
        check.due("distance of " + wish + " from " + pattern, clock.distance(), want);
    }

    private static void theEmptyWish() {
        check.sentence("the empty text is a wish too");
        away("", "", 0);
        away("-", "", 0);
        away("u", "", 1000);
        away("uuuu-uu", "", 1000);
        away(ALL, "", 15000);
        check.due("match by nothing", with().match(), SkeletonClock.NONE);
        check.due("match by slot 5 alone", with(null, null, null, null, null, "u").match(), 5);
    }

    private static void allowedCounts() {
        check.sentence("runs of letters with their lengths as counts, as they are allowed in patterns");
        for (char letter = 'A'; letter <= 'z'; letter++) {
            for (int count = 1; count <= 11 && (letter <= 'Z' || letter >= 'a'); count++) {
                String run = String.valueOf(letter).repeat(count);
                boolean allowed = Check.define(new SkeletonClock(), 0, run) == SkeletonClock.NONE;
                check.due("match " + run, Check.match(with("-"), run), allowed ? 0 : SkeletonClock.REFUSED);
                check.due("match " + run, Check.match(with(), run),
                    allowed ? SkeletonClock.NONE : SkeletonClock.REFUSED);
            }
        }
    }

    private static void noOtherCharacters() {
        check.sentence("no other characters");
        for (char c = 32; c <= 126; c++) {
            boolean letter = c >= 'a' && c <= 'z' || c >= 'A' && c <= 'Z';
            if (!letter) {
                for (String wish : new String[] {"" + c, "u" + c, c + "u", "u" + c + "M", "" + c + c, "'" + c + "'"}) {
                    check.due("match " + wish, Check.match(with("u"), wish), SkeletonClock.REFUSED);
                }
            }
        }
        for (String wish : new String[] {"[u]", "[]", "u[M]", "''", "u''", "'u'", "u'M'"}) {
            check.due("match " + wish, Check.match(with("u"), wish), SkeletonClock.REFUSED);
        }
    }

    private static void noLetterTwice() {
        check.sentence("no letter in two runs");
        away(ALL, ALL, 0);
        away(ALL, "uYMdDEEEwHhamsSX", 1000);
        for (char letter : "uYMdDwHhamsSXx".toCharArray()) {
            String between = letter == 'H' ? "u" : "H";
            check.due("match of two " + letter, Check.match(with("u"), letter + between + letter), SkeletonClock.REFUSED);
            check.due("match of one " + letter, Check.match(with("u"), letter + between), 0);
        }
        check.due("match EEEuEEE", Check.match(with("u"), "EEEuEEE"), SkeletonClock.REFUSED);
        check.due("match EEEuEEEE", Check.match(with("u"), "EEEuEEEE"), SkeletonClock.REFUSED);
        check.due("all and one again", Check.match(with("u"), ALL + "u"), SkeletonClock.REFUSED);
        check.due("more than twenty runs", Check.match(with("u"), "uM".repeat(11)), SkeletonClock.REFUSED);
        check.due("X and x", Check.match(with("u"), "Xx"), 0);
        check.due("H and h", Check.match(with("u"), "Hh"), 0);
    }

    private static void distances() {
        check.sentence("0 when neither has it, 1000 when one of the two has it, else the difference of the counts");
        away("u", "u", 0);
        away("u", "uuuu", 3);
        away("uuuu", "u", 3);
        away("S", "SSSSSSSSS", 8);
        away("SSSSSSSSS", "S", 8);
        away("u", "M", 2000);
        away("uM", "M", 1000);
        away("u", "uM", 1000);
        away("D", "DDD", 2);
        away("EEE", "EEEE", 1);
        away("X", "XXX", 2);
        away("xxx", "x", 2);
        check.sentence("100 more when the letter is M and just one of the counts is above 2");
        for (int mine = 1; mine <= 4; mine++) {
            for (int wished = 1; wished <= 4; wished++) {
                int names = (mine > 2 ? 1 : 0) + (wished > 2 ? 1 : 0);
                away("M".repeat(mine), "M".repeat(wished), Math.abs(mine - wished) + (names == 1 ? 100 : 0));
            }
        }
        away("EEEE", "EEE", 1);
        away("SSS", "SS", 1);
        away("XXX", "XX", 1);
        check.sentence("the first piece of that letter (in sections or not; X and x are two letters)");
        away("uu-uuuu", "uuuu", 2);
        away("[uu]uuuu", "uuuu", 2);
        away("[[uu]]uuuu", "uuuu", 2);
        away("uuuu[uu]", "uuuu", 0);
        away("X", "x", 2000);
        away("x", "X", 2000);
        away("Xx", "x", 1000);
        away("'u'", "u", 1000);
    }

    private static void theLowest() {
        check.sentence("the slot with the least distance, the lowest of several");
        check.due("six alike", Check.match(with("u", "u", "u", "u", "u", "u"), "u"), 0);
        check.due("the last two alike", Check.match(with("M", "d", "H", "m", "u", "u"), "u"), 4);
        check.due("slots without patterns do not count", Check.match(with(null, "M", null, "M"), "u"), 1);
        check.due("the last is nearest", Check.match(with("u", "u", "u", "u", "u", "uu"), "uu"), 5);
        check.due("the first is nearest", Check.match(with("uu", "u", "u", "u", "u", "u"), "uu"), 0);
        check.due("either way by one", Check.match(with("SSS", "S"), "SS"), 0);
        check.due("nearer by one", Check.match(with("SSSS", "S", "SS"), "SSS"), 0);
        check.due("a name is far from a number", Check.match(with("MMM", "M"), "MM"), 1);
        check.due("but nearer than nothing", Check.match(with("d", "MMMM"), "M"), 1);
    }

    private static void answers(SkeletonClock clock, String wish, int want) {
        check.due("match " + wish, Check.match(clock, wish), want);
        check.due("characters of the text after " + wish, Check.textLength(clock), 0);
    }

    private static void refusalsAndTheText() {
        check.sentence("REFUSED when the text is no such wish; otherwise NONE when no slot has a pattern. "
            + "The text is empty then, in any case.");
        for (String wish : new String[] {"q", "uuu", "uMu", "-", "[", "'", "q".repeat(60), "-".repeat(60)}) {
            answers(with(), wish, SkeletonClock.REFUSED);
            answers(with("u"), wish, SkeletonClock.REFUSED);
        }
        for (String wish : new String[] {"", "u", ALL, "M"}) {
            answers(with(), wish, SkeletonClock.NONE);
            answers(with("u"), wish, 0);
        }
    }

    private static void othersLeaveTheDistance() {
        check.sentence("The distance that the latest match that answered a slot found (others leave it); NONE when there was none.");
        SkeletonClock clock = with();
        check.due("distance before any match", clock.distance(), SkeletonClock.NONE);
        Check.match(clock, "u");
        check.due("distance after NONE", clock.distance(), SkeletonClock.NONE);
        Check.match(clock, "q");
        check.due("distance after REFUSED", clock.distance(), SkeletonClock.NONE);
        Check.define(clock, 3, "uuuu");
        check.due("distance after define", clock.distance(), SkeletonClock.NONE);
        Check.match(clock, "uu");
        check.due("distance after a slot", clock.distance(), 2);
        Check.match(clock, "q");
        check.due("distance after REFUSED", clock.distance(), 2);
        Check.define(clock, 3, "uu");
        check.due("distance after define", clock.distance(), 2);
        check.due("distance, asked again", clock.distance(), 2);
        Check.match(clock, "uu");
        check.due("distance after a slot", clock.distance(), 0);
        Check.match(clock, "uuu");
        check.due("distance after REFUSED", clock.distance(), 0);
        Check.match(clock, "M");
        check.due("distance after a slot", clock.distance(), 2000);
    }

    public static void main(String[] args) {
        theEmptyWish();
        allowedCounts();
        noOtherCharacters();
        noLetterTwice();
        distances();
        theLowest();
        refusalsAndTheText();
        othersLeaveTheDistance();
        check.finish();
    }
}
