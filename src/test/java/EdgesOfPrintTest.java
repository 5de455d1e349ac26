import java.time.LocalDate;

/** Promises 8, 9 and 10: each boundary case that the document names for print, charAt and copy. */
public final class EdgesOfPrintTest {
    private static final Check check = new Check();
    private static final String SIXTY = "SSSSSSSSS-".repeat(6);

    private static void prints(long seconds, int nano, int minutes, int parts, String pattern, String want) {
        SkeletonClock clock = new SkeletonClock();
        check.due("moment", clock.moment(seconds, nano, minutes, parts), true);
        check.due("print " + pattern, Check.printed(clock, pattern), want);
    }

    private static void date(int year, int month, int day, String pattern, String want) {
        prints(LocalDate.of(year, month, day).toEpochDay() * 86400L, 0, 0, 1, pattern, want);
    }

    private static void time(int second, int nano, String pattern, String want) {
        prints(second, nano, 0, 2, pattern, want);
    }

    private static void offset(int minutes, String want) {
        prints(0L, 0, minutes, 4, "X XX XXX x xx xxx", want);
    }

    private static void year(int year, String want) {
        date(year, 7, 1, "u uu uuuu", want);
        date(year, 7, 1, "Y YY YYYY", want);
    }

    private static void years() {
        check.sentence("u, Y with 1: the number with - if it is below 0; with 2: its last two digits, that is the remainder "
            + "0 .. 99 by 100; with 4: at least four digits, zeros before them, with - if it is below 0 and + if it is above 9999");
        year(-999999999, "-999999999 01 -999999999");
        year(-10001, "-10001 99 -10001");
        year(-10000, "-10000 00 -10000");
        year(-9999, "-9999 01 -9999");
        year(-1000, "-1000 00 -1000");
        year(-999, "-999 01 -0999");
        year(-101, "-101 99 -0101");
        year(-100, "-100 00 -0100");
        year(-99, "-99 01 -0099");
        year(-10, "-10 90 -0010");
        year(-1, "-1 99 -0001");
        year(0, "0 00 0000");
        year(1, "1 01 0001");
        year(9, "9 09 0009");
        year(10, "10 10 0010");
        year(99, "99 99 0099");
        year(100, "100 00 0100");
        year(999, "999 99 0999");
        year(1000, "1000 00 1000");
        year(9999, "9999 99 9999");
        year(10000, "10000 00 +10000");
        year(10001, "10001 01 +10001");
        year(999999999, "999999999 99 +999999999");
        date(10000, 1, 1, "uuuu YYYY", "+10000 9999");
        date(0, 1, 1, "uuuu YYYY", "0000 -0001");
    }

    private static void numbers() {
        check.sentence("in digits, with zeros before them until there are as many as the count");
        date(2024, 1, 1, "M MM d dd D DDD w ww", "1 01 1 01 1 001 1 01");
        date(2024, 9, 9, "M MM d dd D DDD w ww", "9 09 9 09 253 253 37 37");
        date(2024, 10, 10, "M MM d dd D DDD w ww", "10 10 10 10 284 284 41 41");
        date(2024, 12, 31, "M MM d dd D DDD w ww", "12 12 31 31 366 366 1 01");
        date(2024, 1, 9, "D DDD", "9 009");
        date(2024, 1, 10, "D DDD", "10 010");
        date(2024, 4, 8, "D DDD", "99 099");
        date(2024, 4, 9, "D DDD", "100 100");
        date(2020, 12, 31, "w ww", "53 53");
        date(2024, 3, 3, "w ww", "9 09");
        date(2024, 3, 4, "w ww", "10 10");
        String pattern = "H HH h hh m mm s ss a";
        time(0, 0, pattern, "0 00 12 12 0 00 0 00 AM");
        time(9 * 3600 + 9 * 60 + 9, 0, pattern, "9 09 9 09 9 09 9 09 AM");
        time(10 * 3600 + 10 * 60 + 10, 0, pattern, "10 10 10 10 10 10 10 10 AM");
        time(43199, 0, pattern, "11 11 11 11 59 59 59 59 AM");
        time(43200, 0, pattern, "12 12 12 12 0 00 0 00 PM");
        time(46800, 0, pattern, "13 13 1 01 0 00 0 00 PM");
        time(86399, 0, pattern, "23 23 11 11 59 59 59 59 PM");
        check.sentence("S: the first so many of the nine digits of the billionths (zeros before them to make nine)");
        for (int count = 1; count <= 9; count++) {
            time(0, 0, "S".repeat(count), "0".repeat(count));
            time(0, 1, "S".repeat(count), "000000001".substring(0, count));
            time(0, 99999999, "S".repeat(count), "099999999".substring(0, count));
            time(0, 100000000, "S".repeat(count), "100000000".substring(0, count));
            time(0, 999999999, "S".repeat(count), "999999999".substring(0, count));
        }
    }

    private static void offsets() {
        check.sentence("+ or - (+ for 0) [..]; with count 1 the minutes are left out when they are 0; but X prints Z for 0");
        offset(0, "Z Z Z +00 +0000 +00:00");
        offset(1, "+0001 +0001 +00:01 +0001 +0001 +00:01");
        offset(-1, "-0001 -0001 -00:01 -0001 -0001 -00:01");
        offset(59, "+0059 +0059 +00:59 +0059 +0059 +00:59");
        offset(-59, "-0059 -0059 -00:59 -0059 -0059 -00:59");
        offset(60, "+01 +0100 +01:00 +01 +0100 +01:00");
        offset(-60, "-01 -0100 -01:00 -01 -0100 -01:00");
        offset(61, "+0101 +0101 +01:01 +0101 +0101 +01:01");
        offset(-61, "-0101 -0101 -01:01 -0101 -0101 -01:01");
        offset(599, "+0959 +0959 +09:59 +0959 +0959 +09:59");
        offset(600, "+10 +1000 +10:00 +10 +1000 +10:00");
        offset(1079, "+1759 +1759 +17:59 +1759 +1759 +17:59");
        offset(1080, "+18 +1800 +18:00 +18 +1800 +18:00");
        offset(-1080, "-18 -1800 -18:00 -18 -1800 -18:00");
    }

    private static void sections() {
        check.sentence("A section: its pieces; but nothing at all when one of them needs a field that is not there.");
        String[][] letters = {{"u", "Y", "M", "d", "D", "EEE", "w"}, {"H", "h", "a", "m", "s", "S"}, {"X", "x"}};
        for (int part = 0; part < 3; part++) {
            for (String letter : letters[part]) {
                for (int parts = 1; parts <= 7; parts++) {
                    boolean there = (parts >> part & 1) == 1;
                    SkeletonClock clock = new SkeletonClock();
                    clock.moment(0L, 0, 0, parts);
                    String page = Check.printed(clock, "<[(" + letter + ")]>");
                    check.due(letter + " with " + parts + " gives nothing", page.equals("<>"), !there);
                    check.due(letter + " with " + parts + " gives all", page.startsWith("<(") && page.endsWith(")>"), there);
                }
            }
        }
        prints(0L, 0, 0, 1, "[-d-H-]+", "+");
        prints(0L, 0, 0, 1, "[H-d-]+", "+");
        prints(0L, 0, 0, 1, "[-d-]+", "-1-+");
        prints(0L, 0, 0, 1, "[]", "");
        prints(0L, 0, 0, 1, "[-]", "-");
        check.sentence("(A section inside it that prints nothing for that reason does not count as such.)");
        prints(0L, 0, 0, 1, "[(d[H])]", "(1)");
        prints(0L, 0, 0, 1, "[([H])]", "()");
        prints(0L, 0, 0, 1, "[([d]H)]", "");
        prints(0L, 0, 0, 1, "[([d])H]d", "1");
        prints(0L, 0, 0, 1, "[d[-[H]+]]", "1-+");
        prints(0L, 0, 0, 1, "[d[-[d]H]+]", "1+");
        prints(0L, 0, 0, 1, "[".repeat(19) + "H" + "]".repeat(19), "");
        prints(0L, 0, 0, 2, "[".repeat(19) + "H" + "]".repeat(19), "0");
        prints(0L, 0, 0, 1, "[-[H]][-[H]]", "--");
    }

    private static void refusedOrNone() {
        check.sentence("NONE, the page staying, when a piece outside of sections needs a field that is not there");
        SkeletonClock clock = new SkeletonClock();
        Check.define(clock, 0, "u-M");
        Check.define(clock, 1, "-H");
        Check.define(clock, 2, "[d][H]X");
        Check.define(clock, 3, "[H]");
        clock.moment(0L, 0, 0, 1);
        check.due("print(0)", clock.print(0), 6);
        check.due("print(1)", clock.print(1), SkeletonClock.NONE);
        check.due("page after NONE", Check.page(clock), "1970-1");
        check.due("print(2)", clock.print(2), SkeletonClock.NONE);
        check.due("page after NONE", Check.page(clock), "1970-1");
        check.due("print(3)", clock.print(3), 0);
        check.due("page after 0 characters", Check.page(clock), "");
        check.sentence("REFUSED when slot is not 0 .. 5 or has no pattern");
        clock.print(0);
        for (int slot : new int[] {Integer.MIN_VALUE, -1, 4, 5, 6, Integer.MAX_VALUE}) {
            check.due("print(" + slot + ")", clock.print(slot), SkeletonClock.REFUSED);
            check.due("page after print(" + slot + ")", Check.page(clock), "1970-1");
        }
        Check.define(clock, 5, "dd");
        check.due("print(5) with a pattern", clock.print(5), 2);
        check.due("print(0) with a pattern", clock.print(0), 6);
    }

    private static void places() {
        check.sentence("The code of the character at place p of the page; NONE when there is none.");
        SkeletonClock clock = new SkeletonClock();
        clock.moment(-31557014135596800L, 0, 0, 1);
        String[] patterns = {"", "d", "u", "uYuYuYuYuYuYuYuYuYuY"};
        int[] lengths = {0, 1, 10, 200};
        for (int k = patterns.length - 1; k >= 0; k--) {
            Check.define(clock, 0, patterns[k]);
            check.due("print " + patterns[k], clock.print(0), lengths[k]);
            for (int p : new int[] {Integer.MIN_VALUE, -1, lengths[k], lengths[k] + 1, 200, 201, Integer.MAX_VALUE}) {
                check.due("charAt(" + p + ") of " + lengths[k], clock.charAt(p), SkeletonClock.NONE);
            }
        }
        Check.define(clock, 0, patterns[3]);
        clock.print(0);
        check.due("charAt(0)", clock.charAt(0), '-');
        check.due("charAt(199)", clock.charAt(199), '9');
        check.due("the longest page", Check.page(clock), "-999999999".repeat(20));
    }

    private static void copies() {
        check.sentence("false when the page has more than 60 characters");
        for (int length = 0; length <= 62; length++) {
            SkeletonClock clock = new SkeletonClock();
            String pattern = length <= 60 ? SIXTY.substring(60 - length)
                : "uuuuMMMM".repeat(5) + "S".repeat(length - 55);
            Check.define(clock, 0, pattern);
            check.due("print of " + length, clock.print(0), length);
            Check.type(clock, "abc");
            check.due("copy of " + length, clock.copy(), length <= 60);
            check.due("page after copy of " + length, Check.page(clock).length(), length);
            check.due("characters of the text after copy of " + length, Check.textLength(clock), length <= 60 ? length : 3);
        }
        check.sentence("Makes the text what the page is.");
        SkeletonClock clock = new SkeletonClock();
        Check.define(clock, 0, "'u-d'");
        clock.print(0);
        clock.copy();
        check.due("define of the copy", clock.define(1), SkeletonClock.NONE);
        clock.print(1);
        check.due("print by the copy", Check.page(clock), "1970-1");
    }

    public static void main(String[] args) {
        years();
        numbers();
        offsets();
        sections();
        refusedOrNone();
        places();
        copies();
        check.finish();
    }
}
