import java.time.LocalDate;

/** Promises 6 and 7: each boundary case that the document names for moment and field. */
public final class EdgesOfMomentTest {
    private static final Check check = new Check();
    private static final long FIRST = LocalDate.of(-999999999, 1, 1).toEpochDay() * 86400L;
    private static final long LAST = LocalDate.of(999999999, 12, 31).toEpochDay() * 86400L + 86399L;
    private static final String LETTERS = "uMdDEwYHhamsSX";

    private static String fields(SkeletonClock clock) {
        StringBuilder all = new StringBuilder();
        for (char letter : LETTERS.toCharArray()) {
            all.append(letter).append(clock.field(letter)).append(' ');
        }
        return all + Check.printed(clock, "[u][H][X]");
    }

    private static void answers(long seconds, int nano, int minutes, int parts, boolean want) {
        SkeletonClock clock = new SkeletonClock();
        clock.moment(1700000000L, 7, 90, 5);
        String before = fields(clock);
        String call = "moment(" + seconds + ", " + nano + ", " + minutes + ", " + parts + ")";
        check.due(call, clock.moment(seconds, nano, minutes, parts), want);
        if (!want) {
            check.due("the moment after " + call, fields(clock), before);
        } else {
            check.due("S after " + call, clock.field('S'), nano);
            check.due("X after " + call, clock.field('X'), minutes);
        }
    }

    private static void ranges() {
        check.sentence("false when nano is not 0 .. 999999999");
        answers(0L, -1, 0, 7, false);
        answers(0L, 0, 0, 7, true);
        answers(0L, 999999999, 0, 7, true);
        answers(0L, 1000000000, 0, 7, false);
        answers(0L, Integer.MIN_VALUE, 0, 7, false);
        answers(0L, Integer.MAX_VALUE, 0, 7, false);
        check.sentence("minutes not -1080 .. 1080");
        answers(0L, 0, -1081, 7, false);
        answers(0L, 0, -1080, 7, true);
        answers(0L, 0, 1080, 7, true);
        answers(0L, 0, 1081, 7, false);
        answers(0L, 0, Integer.MIN_VALUE, 7, false);
        answers(0L, 0, Integer.MAX_VALUE, 7, false);
        check.sentence("parts not 1 .. 7");
        answers(0L, 0, 0, -1, false);
        answers(0L, 0, 0, 0, false);
        for (int parts = 1; parts <= 7; parts++) {
            answers(0L, 0, 0, parts, true);
        }
        answers(0L, 0, 0, 8, false);
        answers(0L, 0, 0, 9, false);
        answers(0L, 0, 0, Integer.MIN_VALUE, false);
        answers(0L, 0, 0, Integer.MAX_VALUE, false);
        check.sentence("Seconds and minutes are looked at whatever the parts");
        for (int parts = 1; parts <= 7; parts++) {
            answers(0L, 0, 1081, parts, false);
            answers(0L, 0, -1081, parts, false);
            answers(0L, -1, 0, parts, false);
            answers(0L, 1000000000, 0, parts, false);
        }
    }

    private static void years() {
        check.sentence("or the year of that date is not -999999999 .. 999999999");
        for (int parts = 1; parts <= 7; parts++) {
            for (int minutes : new int[] {-1080, -1, 0, 1, 1080}) {
                answers(FIRST - 60L * minutes, 0, minutes, parts, true);
                answers(FIRST - 60L * minutes - 1, 0, minutes, parts, false);
                answers(LAST - 60L * minutes, 0, minutes, parts, true);
                answers(LAST - 60L * minutes + 1, 0, minutes, parts, false);
            }
        }
        SkeletonClock clock = new SkeletonClock();
        clock.moment(FIRST, 0, 0, 7);
        check.due("the first moment", Check.printed(clock, "u-M-d H:m:s"), "-999999999-1-1 0:0:0");
        clock.moment(LAST, 0, 0, 7);
        check.due("the last moment", Check.printed(clock, "u-M-d H:m:s"), "999999999-12-31 23:59:59");
        clock.moment(FIRST - 64800L, 0, 1080, 7);
        check.due("the first moment with an offset", Check.printed(clock, "u-M-d H:m:s"), "-999999999-1-1 0:0:0");
        clock.moment(LAST + 64800L, 0, -1080, 7);
        check.due("the last moment with an offset", Check.printed(clock, "u-M-d H:m:s"), "999999999-12-31 23:59:59");
    }

    private static void nothingWraps() {
        check.sentence("the exact sum; nothing wraps");
        for (int minutes : new int[] {-1080, -1, 0, 1, 1080}) {
            answers(Long.MAX_VALUE, 0, minutes, 7, false);
            answers(Long.MAX_VALUE - 60L * 1080, 0, minutes, 7, false);
            answers(Long.MIN_VALUE, 0, minutes, 7, false);
            answers(Long.MIN_VALUE + 60L * 1080, 0, minutes, 7, false);
        }
        // Sums, products and casts in fewer bits would come out near 1970.
        for (int bits = 32; bits <= 62; bits++) {
            long far = 1L << bits;
            boolean good = far <= LAST;
            answers(far, 0, 0, 7, good);
            answers(-far, 0, 0, 7, good);
            answers(far - 1, 0, 0, 7, good);
            answers(86400L * (far / 86400L), 0, 0, 7, good);
        }
        SkeletonClock clock = new SkeletonClock();
        clock.moment(Integer.MAX_VALUE, 0, 1080, 7);
        check.due("beyond 31 bits", Check.printed(clock, "u-M-d H:m:s"), "2038-1-19 21:14:7");
        clock.moment(Integer.MIN_VALUE, 0, -1080, 7);
        check.due("below 31 bits", Check.printed(clock, "u-M-d H:m:s"), "1901-12-13 2:45:52");
    }

    private static void daysAndYears() {
        check.sentence("the local date and time are those of seconds plus 60 times minutes");
        String pattern = "u-M-d H:m:s";
        Object[][] rows = {{0L, -1, "1969-12-31 23:59:0"}, {-1L, 0, "1969-12-31 23:59:59"}, {86399L, 0, "1970-1-1 23:59:59"},
            {86400L, 0, "1970-1-2 0:0:0"}, {86340L, 1, "1970-1-2 0:0:0"}, {86339L, 1, "1970-1-1 23:59:59"},
            {-86400L, 0, "1969-12-31 0:0:0"}, {-86401L, 0, "1969-12-30 23:59:59"}, {0L, 1080, "1970-1-1 18:0:0"},
            {0L, -1080, "1969-12-31 6:0:0"}, {951782399L, 0, "2000-2-28 23:59:59"}, {951782400L, 0, "2000-2-29 0:0:0"},
            {951868800L, 0, "2000-3-1 0:0:0"}, {-2203891200L, 0, "1900-3-1 0:0:0"}, {-2203891201L, 0, "1900-2-28 23:59:59"},
            {-62167219200L, 0, "0-1-1 0:0:0"}, {-62167219201L, 0, "-1-12-31 23:59:59"}, {-62135596800L, 0, "1-1-1 0:0:0"}};
        for (Object[] row : rows) {
            SkeletonClock clock = new SkeletonClock();
            clock.moment((Long) row[0], 0, (Integer) row[1], 7);
            check.due("moment " + row[0] + " with " + row[1], Check.printed(clock, pattern), (String) row[2]);
        }
    }

    private static void fieldsOfMissingParts() {
        check.sentence("whether its part is there or not, as it was set or taken over");
        int[] values = {2023, 11, 14, 318, 2, 46, 2023, 23, 11, 1, 43, 20, 987654321, 90};
        for (int parts = 1; parts <= 7; parts++) {
            SkeletonClock clock = new SkeletonClock();
            clock.moment(1700000000L, 987654321, 90, parts);
            for (int k = 0; k < values.length; k++) {
                check.due("field " + LETTERS.charAt(k) + " with " + parts, clock.field(LETTERS.charAt(k)), values[k]);
            }
        }
        check.sentence("a part that was not read is that of 1970-01-01, 0:00:00, 0");
        takenFields("u-M-d", "2024-2-29", 2024, 2, 29, 60, 4, 9, 2024, 0, 12, 0, 0, 0, 0, 0);
        takenFields("H:m:s.S", "23:59:58.9", 1970, 1, 1, 1, 4, 1, 1970, 23, 11, 1, 59, 58, 900000000, 0);
        takenFields("X", "-1800", 1970, 1, 1, 1, 4, 1, 1970, 0, 12, 0, 0, 0, 0, -1080);
        takenFields("X", "+1800", 1970, 1, 1, 1, 4, 1, 1970, 0, 12, 0, 0, 0, 0, 1080);
        takenFields("HX", "23+18", 1970, 1, 1, 1, 4, 1, 1970, 23, 11, 1, 0, 0, 0, 1080);
        takenFields("u-M-dX", "2024-2-29-18", 2024, 2, 29, 60, 4, 9, 2024, 0, 12, 0, 0, 0, 0, -1080);
    }

    private static void takenFields(String pattern, String text, int... values) {
        SkeletonClock clock = new SkeletonClock();
        clock.moment(1700000000L, 987654321, 90, 7);
        Check.define(clock, 0, pattern);
        Check.type(clock, text);
        check.due("read " + text, clock.read(0, 0, false), SkeletonClock.NONE);
        check.due("take " + text, clock.take(), true);
        for (int k = 0; k < values.length; k++) {
            check.due("field " + LETTERS.charAt(k) + " of " + text, clock.field(LETTERS.charAt(k)), values[k]);
        }
    }

    private static void otherCodes() {
        check.sentence("NONE for other codes (also for x)");
        for (int first = 0; first <= 65535; first += 256) {
            SkeletonClock clock = new SkeletonClock();
            clock.moment(1700000000L, 987654321, 90, 7);
            for (int code = first; code < first + 256; code++) {
                boolean letter = LETTERS.indexOf((char) code) >= 0;
                check.due("field " + code, clock.field((char) code) == SkeletonClock.NONE, !letter);
            }
            check.due("field x", clock.field('x'), SkeletonClock.NONE);
        }
    }

    private static void hoursAndWeeks() {
        check.sentence("h, the hour 1 .. 12 (12 for 0 and 12); a, 0 before noon and 1 after it");
        int[][] hours = {{0, 12, 0}, {1, 1, 0}, {11, 11, 0}, {12, 12, 1}, {13, 1, 1}, {23, 11, 1}};
        SkeletonClock clock = new SkeletonClock();
        for (int[] row : hours) {
            for (int second : new int[] {0, 3599}) {
                clock.moment(3600L * row[0] + second, 0, 0, 7);
                check.due("H", clock.field('H'), row[0]);
                check.due("h of " + row[0], clock.field('h'), row[1]);
                check.due("a of " + row[0], clock.field('a'), row[2]);
            }
        }
        check.sentence("weeks begin on Mondays, belong to the year in which their Thursday lies, and are numbered from 1 in it");
        int[][] days = {{2020, 12, 31, 2020, 53}, {2021, 1, 3, 2020, 53}, {2021, 1, 4, 2021, 1}, {2019, 12, 29, 2019, 52},
            {2019, 12, 30, 2020, 1}, {2024, 12, 29, 2024, 52}, {2024, 12, 30, 2025, 1}, {2023, 1, 1, 2022, 52},
            {2023, 1, 2, 2023, 1}, {0, 1, 1, -1, 52}, {0, 1, 3, 0, 1}, {-1, 12, 31, -1, 52}};
        for (int[] row : days) {
            LocalDate date = LocalDate.of(row[0], row[1], row[2]);
            clock.moment(date.toEpochDay() * 86400L, 0, 0, 7);
            check.due("Y of " + date, clock.field('Y'), row[3]);
            check.due("w of " + date, clock.field('w'), row[4]);
        }
    }

    public static void main(String[] args) {
        ranges();
        years();
        nothingWraps();
        daysAndYears();
        fieldsOfMissingParts();
        otherCodes();
        hoursAndWeeks();
        check.finish();
    }
}
