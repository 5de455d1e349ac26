/** Promise 8: print. */
public final class PrintTest {
    private static final Check check = new Check();

    private static void prints(long seconds, int nano, int minutes, int parts, String pattern, String want) {
        SkeletonClock clock = new SkeletonClock();
        check.due("moment", clock.moment(seconds, nano, minutes, parts), true);
        check.due("print " + pattern, Check.printed(clock, pattern), want);
    }

    private static void date(int year, int month, int day, String pattern, String want) {
        prints(java.time.LocalDate.of(year, month, day).toEpochDay() * 86400L, 0, 0, 1, pattern, want);
    }

    private static void time(int hour, int minute, int second, int nano, String pattern, String want) {
        prints(hour * 3600L + minute * 60L + second, nano, 0, 2, pattern, want);
    }

    private static void offset(int minutes, String pattern, String want) {
        prints(0L, 0, minutes, 4, pattern, want);
    }

    private static void years() {
        String pattern = "u uu uuuu";
        date(2024, 5, 6, pattern, "2024 24 2024");
        date(1905, 5, 6, pattern, "1905 05 1905");
        date(9999, 5, 6, pattern, "9999 99 9999");
        date(10000, 5, 6, pattern, "10000 00 +10000");
        date(999999999, 5, 6, pattern, "999999999 99 +999999999");
        date(7, 5, 6, pattern, "7 07 0007");
        date(0, 5, 6, pattern, "0 00 0000");
        date(-1, 5, 6, pattern, "-1 99 -0001");
        date(-123, 5, 6, pattern, "-123 77 -0123");
        date(-100, 5, 6, pattern, "-100 00 -0100");
        date(-9999, 5, 6, pattern, "-9999 01 -9999");
        date(-12345, 5, 6, pattern, "-12345 55 -12345");
        date(-999999999, 5, 6, pattern, "-999999999 01 -999999999");
        date(2021, 1, 3, "Y YY YYYY w ww", "2020 20 2020 53 53");
        date(2021, 1, 4, "Y YY YYYY w ww", "2021 21 2021 1 01");
        date(-1, 12, 31, "Y YY YYYY", "-1 99 -0001");
        date(10000, 1, 1, "u Y YYYY", "10000 9999 9999");
    }

    private static void numbersAndNames() {
        date(2024, 2, 3, "M MM d dd D DDD", "2 02 3 03 34 034");
        date(2024, 12, 31, "M MM d dd D DDD", "12 12 31 31 366 366");
        String[] months = {"January", "February", "March", "April", "May", "June", "July", "August", "September",
            "October", "November", "December"};
        String[] days = {"Monday", "Tuesday", "Wednesday", "Thursday", "Friday", "Saturday", "Sunday"};
        for (int k = 0; k < 12; k++) {
            date(2023, k + 1, 9, "MMMM|MMM", months[k] + "|" + months[k].substring(0, 3));
        }
        for (int k = 0; k < 7; k++) {
            date(2024, 1, k + 1, "EEEE|EEE", days[k] + "|" + days[k].substring(0, 3));
        }
        time(0, 1, 2, 0, "H HH h hh m mm s ss a", "0 00 12 12 1 01 2 02 AM");
        time(12, 59, 50, 0, "H HH h hh m mm s ss a", "12 12 12 12 59 59 50 50 PM");
        time(23, 9, 9, 0, "H HH h hh m mm s ss a", "23 23 11 11 9 09 9 09 PM");
        time(9, 0, 0, 0, "H HH h hh m mm s ss a", "9 09 9 09 0 00 0 00 AM");
    }

    private static void billionths() {
        String nine = "123456789";
        for (int count = 1; count <= 9; count++) {
            time(0, 0, 0, 123456789, "S".repeat(count), nine.substring(0, count));
            time(0, 0, 0, 999999999, "S".repeat(count), "9".repeat(count));
            time(0, 0, 0, 1, "S".repeat(count), count == 9 ? "000000001" : "0".repeat(count));
        }
    }

    private static void offsets() {
        offset(0, "X XX XXX x xx xxx", "Z Z Z +00 +0000 +00:00");
        offset(60, "X XX XXX x xx xxx", "+01 +0100 +01:00 +01 +0100 +01:00");
        offset(-60, "X XX XXX x xx xxx", "-01 -0100 -01:00 -01 -0100 -01:00");
        offset(330, "X XX XXX x xx xxx", "+0530 +0530 +05:30 +0530 +0530 +05:30");
        offset(-5, "X XX XXX x xx xxx", "-0005 -0005 -00:05 -0005 -0005 -00:05");
        offset(1080, "X XX XXX", "+18 +1800 +18:00");
        offset(-1080, "X XX XXX", "-18 -1800 -18:00");
        offset(-1079, "X XX XXX", "-1759 -1759 -17:59");
    }

    private static void characters() {
        date(2024, 5, 6, "'u'u''d", "u2024'6");
        date(2024, 5, 6, "'it''s 'd", "it's 6");
        date(2024, 5, 6, "''''", "''");
        date(2024, 5, 6, "'['d']'", "[6]");
        date(2024, 5, 6, "!#$%&()*+,-./0123", "!#$%&()*+,-./0123");
        date(2024, 5, 6, ":;<=>?@\\^_`{|}~ ", ":;<=>?@\\^_`{|}~ ");
        date(2024, 5, 6, "", "");
    }

    private static void sections() {
        for (int parts = 1; parts <= 7; parts++) {
            String want = ((parts & 1) != 0 ? "u1970" : "") + ((parts & 2) != 0 ? "H0" : "")
                + ((parts & 4) != 0 ? "X+00" : "");
            prints(0L, 0, 0, parts, "['u'u]['H'H]['X'x]", want);
            prints(0L, 0, 0, parts, "[u]-[H]", ((parts & 1) != 0 ? "1970" : "") + "-" + ((parts & 2) != 0 ? "0" : ""));
        }
        prints(0L, 0, 0, 1, "-[+]", "-+");
        prints(0L, 0, 0, 1, "[]", "");
        prints(0L, 0, 0, 1, "[d[-H]+]", "1+");
        prints(0L, 0, 0, 1, "[d[-]H+]d", "1");
        prints(0L, 0, 0, 1, "[d[-d]H+]d", "1");
        prints(0L, 0, 0, 1, "[d[-d[:H]*]+]d", "1-1*+1");
        prints(0L, 0, 0, 1, "[[[H]-]+]*", "-+*");
        prints(0L, 0, 0, 1, "[[[H]-H]+]*", "+*");
        prints(0L, 0, 0, 1, "[[[d]-H]+H]*", "*");
        prints(0L, 0, 0, 1, "[H][d][H][d]", "11");
        prints(0L, 0, 0, 1, "[H[d]]d", "1");
        prints(0L, 0, 0, 2, "[S]-[D]", "0-");
        prints(0L, 0, 0, 5, "[X][x]-[a]", "Z+00-");
    }

    private static void missingFields() {
        String[] letters = {"u", "Y", "M", "MMM", "d", "D", "EEE", "w", "H", "h", "a", "m", "s", "S", "X", "x"};
        for (int k = 0; k < letters.length; k++) {
            int part = k < 8 ? 1 : k < 14 ? 2 : 4;
            for (int parts = 1; parts <= 7; parts++) {
                SkeletonClock clock = new SkeletonClock();
                Check.define(clock, 1, "12345678");
                clock.print(1);
                clock.moment(0L, 0, 0, parts);
                Check.define(clock, 2, "-" + letters[k]);
                boolean there = (parts & part) != 0;
                int answer = clock.print(2);
                check.due("print " + letters[k] + " with " + parts, answer == SkeletonClock.NONE, !there);
                check.due("the page", Check.page(clock).equals("12345678"), !there);
                check.due("the answer", there ? Check.page(clock).length() : SkeletonClock.NONE, answer);
            }
        }
    }

    private static void slotsAndPages() {
        SkeletonClock clock = new SkeletonClock();
        Check.define(clock, 5, "uuuu");
        check.due("print(5)", clock.print(5), 4);
        for (int slot : new int[] {-1, 0, 4, 6, Integer.MIN_VALUE, Integer.MAX_VALUE}) {
            check.due("print(" + slot + ")", clock.print(slot), SkeletonClock.REFUSED);
        }
        check.due("the page stayed", Check.page(clock), "1970");
        Check.define(clock, 0, "d");
        check.due("print(0)", clock.print(0), 1);
        check.due("instead of what was there", Check.page(clock), "1");
        Check.type(clock, "12");
        clock.print(5);
        check.due("the text stayed", Check.textLength(clock), 2);
        clock.moment(-31557014135596800L, 0, 0, 7);
        Check.define(clock, 1, "uYuYuYuYuYuYuYuYuYuY");
        check.due("the longest page", clock.print(1), 200);
        Check.define(clock, 1, "uuuuYYYY".repeat(7));
        check.due("a long page", clock.print(1), 140);
        check.due("page", Check.page(clock), "-999999999".repeat(14));
    }

    private static void sectionsDoNotLinger() {
        SkeletonClock clock = new SkeletonClock();
        Check.define(clock, 0, "-[[d]]");
        Check.define(clock, 1, "H");
        clock.moment(0L, 0, 0, 1);
        check.due("print(0)", clock.print(0), 2);
        check.due("print(1)", clock.print(1), SkeletonClock.NONE);
        check.due("the page stayed", Check.page(clock), "-1");
    }

    public static void main(String[] args) {
        years();
        numbersAndNames();
        billionths();
        offsets();
        characters();
        sections();
        missingFields();
        slotsAndPages();
        sectionsDoNotLinger();
        check.finish();
    }
}
