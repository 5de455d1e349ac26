import java.time.LocalDate;
import java.time.Year;
import java.time.YearMonth;
import java.time.temporal.IsoFields;

/** Promise 11: each boundary case that the document names for resolving what is known. */
public final class EdgesOfResolveTest {
    private static final Check check = new Check();
    private static final String CLASH = "clash";
    private static final String[] STYLES = {"strict", "smart", "lenient"};
    private static final String[] DAYS = {"Mon", "Tue", "Wed", "Thu", "Fri", "Sat", "Sun"};

    private static void by(int style, String pattern, String text, String want) {
        check.due(STYLES[style] + " " + text + " by " + pattern, Check.reading(pattern, text, style, false), want);
    }

    private static void all(String pattern, String text, String want) {
        for (int style = 0; style < 3; style++) {
            by(style, pattern, text, want);
        }
    }

    /** A text that only lenient reading makes a moment of. */
    private static void lenient(String pattern, String text, String want) {
        by(0, pattern, text, CLASH);
        by(1, pattern, text, CLASH);
        by(2, pattern, text, want);
    }

    private static String date(LocalDate date) {
        return "1 " + date.toEpochDay() * 86400L + " 0 0";
    }

    private static String time(int second) {
        return "2 " + second + " 0 0";
    }

    private static String both(LocalDate date, long second) {
        return "3 " + (date.toEpochDay() * 86400L + second) + " 0 0";
    }

    private static void months() {
        check.sentence("Strict: a clash when a value used so is not one that the field can have; M, the month 1 .. 12");
        LocalDate first = LocalDate.of(2023, 1, 1);
        lenient("u-M-d", "2023-0-1", date(first.minusMonths(1)));
        all("u-M-d", "2023-1-1", date(first));
        all("u-M-d", "2023-12-1", date(first.plusMonths(11)));
        for (int month = 13; month <= 99; month++) {
            lenient("u-M-d", "2023-" + month + "-1", date(first.plusMonths(month - 1)));
        }
        lenient("u-M-d", "2023-0-31", date(LocalDate.of(2022, 12, 31)));
        lenient("u-M-d", "2023-13-31", date(LocalDate.of(2024, 1, 31)));
        lenient("u-M-d", "2023-14-29", date(LocalDate.of(2024, 2, 29)));
        lenient("u-M-d", "2022-14-29", date(LocalDate.of(2023, 3, 1)));
    }

    private static void daysOfTheMonth() {
        for (int year : new int[] {2023, 2024, 1900, 2000, 0, -1, -4, -100}) {
            for (int month = 1; month <= 12; month++) {
                int length = YearMonth.of(year, month).lengthOfMonth();
                LocalDate first = LocalDate.of(year, month, 1);
                String start = year + "-" + month + "-";
                check.sentence("d and D in that month and year");
                lenient("u-M-d", start + "0", date(first.minusDays(1)));
                all("u-M-d", start + "1", date(first));
                all("u-M-d", start + length, date(first.plusDays(length - 1)));
                check.sentence("Smart: the same, but a d up to 31 that the month does not have is its last day.");
                for (int day = length + 1; day <= 31; day++) {
                    by(0, "u-M-d", start + day, CLASH);
                    by(1, "u-M-d", start + day, date(first.plusDays(length - 1)));
                    by(2, "u-M-d", start + day, date(first.plusDays(day - 1)));
                }
                lenient("u-M-d", start + "32", date(first.plusDays(31)));
                lenient("u-M-d", start + "99", date(first.plusDays(98)));
            }
        }
    }

    private static void daysOfTheYear() {
        check.sentence("d and D in that month and year");
        for (int year : new int[] {2023, 2024, 1900, 2000, 0, -1, -4, -100, 999999990, -999999990}) {
            LocalDate first = LocalDate.of(year, 1, 1);
            int length = Year.of(year).length();
            lenient("u-D", year + "-0", date(first.minusDays(1)));
            all("u-D", year + "-1", date(first));
            all("u-D", year + "-" + length, date(first.plusDays(length - 1)));
            lenient("u-D", year + "-" + (length + 1), date(first.plusDays(length)));
            lenient("u-D", year + "-367", date(first.plusDays(366)));
            lenient("u-D", year + "-999", date(first.plusDays(998)));
        }
    }

    private static void weeks() {
        check.sentence("w in that year");
        for (int year : new int[] {2019, 2020, 2021, 2024, 2025, 2026, 0, -1, -5, 999999990, -999999990}) {
            LocalDate fourth = LocalDate.of(year, 1, 4);
            LocalDate monday = fourth.minusDays(fourth.getDayOfWeek().getValue() - 1);
            int weeks = LocalDate.of(year, 12, 28).get(IsoFields.WEEK_OF_WEEK_BASED_YEAR);
            for (int day = 0; day < 7; day++) {
                String end = " " + DAYS[day];
                lenient("Y w EEE", year + " 0" + end, date(monday.plusDays(day - 7)));
                all("Y w EEE", year + " 1" + end, date(monday.plusDays(day)));
                all("Y w EEE", year + " " + weeks + end, date(monday.plusDays(7L * weeks - 7 + day)));
                lenient("Y w EEE", year + " " + (weeks + 1) + end, date(monday.plusDays(7L * weeks + day)));
                lenient("Y w EEE", year + " 54" + end, date(monday.plusDays(7L * 53 + day)));
                lenient("Y w EEE", year + " 99" + end, date(monday.plusDays(7L * 98 + day)));
            }
        }
    }

    private static void years() {
        check.sentence("the YEAR in the Gregorian calendar carried on backwards and forwards without end");
        all("u-M-d", "-999999999-1-1", date(LocalDate.of(-999999999, 1, 1)));
        all("u-M-d", "999999999-12-31", date(LocalDate.of(999999999, 12, 31)));
        all("u-D", "-999999999-1", date(LocalDate.of(-999999999, 1, 1)));
        all("u-D", "999999999-365", date(LocalDate.of(999999999, 12, 31)));
        lenient("u-D", "999999999-366", "1 31556889832780800 0 0");
        lenient("u-D", "-999999999-0", "1 -31557014135683200 0 0");
        lenient("u-M-d", "999999999-13-1", "1 31556889832780800 0 0");
        lenient("u-M-d", "-999999999-0-31", "1 -31557014135683200 0 0");
        // Year -999999999 begins on a Monday as 1 does, and 999999999 ends on a Friday as 1999 does.
        all("Y w EEE", "-999999999 1 Mon", date(LocalDate.of(-999999999, 1, 1)));
        all("Y w EEE", "999999999 52 Fri", date(LocalDate.of(999999999, 12, 31)));
        all("Y w EEE", "999999999 52 Sat", "1 31556889832780800 0 0");
        lenient("Y w EEE", "-999999999 0 Sun", "1 -31557014135683200 0 0");
        lenient("Y w EEE", "999999999 53 Mon", "1 31556889832953600 0 0");
    }

    private static void hours() {
        check.sentence("H, the hour 0 .. 23");
        all("H", "0", time(0));
        all("H", "23", time(82800));
        check.sentence("whole days go to the date (nowhere if there is none)");
        lenient("H", "24", time(0));
        lenient("H", "25", time(3600));
        lenient("H", "47", time(82800));
        lenient("H", "48", time(0));
        lenient("H", "99", time(10800));
        check.sentence("12 * a + h (h as 0 when it is 12) when both are; h, the hour 1 .. 12");
        lenient("h a", "0 AM", time(0));
        lenient("h a", "0 PM", time(43200));
        all("h a", "1 AM", time(3600));
        all("h a", "1 PM", time(46800));
        all("h a", "11 AM", time(39600));
        all("h a", "11 PM", time(82800));
        all("h a", "12 AM", time(0));
        all("h a", "12 PM", time(43200));
        lenient("h a", "13 AM", time(46800));
        lenient("h a", "13 PM", time(3600));
        lenient("h a", "24 AM", time(0));
        lenient("h a", "99 AM", time(10800));
        lenient("h a", "99 PM", time(54000));
    }

    private static void minutesAndSeconds() {
        check.sentence("minute, second and billionths are what is known, or 0");
        all("m", "0", time(0));
        all("m", "59", time(3540));
        lenient("m", "60", time(3600));
        lenient("m", "99", time(5940));
        all("s", "0", time(0));
        all("s", "59", time(59));
        lenient("s", "60", time(60));
        lenient("s", "99", time(99));
        all("SSSSSSSSS", "000000000", "2 0 0 0");
        all("SSSSSSSSS", "999999999", "2 0 999999999 0");
        all("H:m:s.SSSSSSSSS", "23:59:59.999999999", "2 86399 999999999 0");
        check.sentence("hours, minutes and seconds are added up");
        lenient("H:m:s", "23:59:60", time(0));
        lenient("H:m:s", "23:60:00", time(0));
        lenient("H:m:s", "22:99:99", time(22 * 3600 + 99 * 60 + 99));
        lenient("H:m:s", "22:58:99", time(22 * 3600 + 58 * 60 + 99));
        lenient("H:m:s", "99:99:99", time((99 * 3600 + 99 * 60 + 99) % 86400));
        lenient("h a m s", "11 PM 60 0", time(0));
        lenient("h a m s", "12 AM 0 99", time(99));
        by(2, "H:m:s.S", "24:0:0.9", "2 0 900000000 0");
    }

    private static void wholeDays() {
        check.sentence("whole days go to the date (nowhere if there is none)");
        LocalDate day = LocalDate.of(2024, 2, 28);
        String p = "u-M-d H:m:s";
        all(p, "2024-2-28 23:59:59", both(day, 86399));
        lenient(p, "2024-2-28 23:59:60", both(day, 86400));
        lenient(p, "2024-2-28 24:0:0", both(day.plusDays(1), 0));
        lenient(p, "2024-2-28 47:59:59", both(day.plusDays(1), 86399));
        lenient(p, "2024-2-28 48:0:0", both(day.plusDays(2), 0));
        lenient(p, "2024-2-28 99:99:99", both(day.plusDays(4), 99 * 3600 + 99 * 60 + 99 - 4 * 86400));
        lenient(p, "2023-12-31 24:0:0", both(LocalDate.of(2024, 1, 1), 0));
        lenient("u-D H", "2023-365 24", both(LocalDate.of(2024, 1, 1), 0));
        lenient("Y w EEE H", "2020 53 Sun 24", both(LocalDate.of(2021, 1, 4), 0));
        lenient("u-D h a", "2023-365 24 PM", both(LocalDate.of(2024, 1, 1), 43200));
        lenient("u-D m", "-1-366 99", both(LocalDate.of(0, 1, 1), 5940));
        lenient("H X", "24 +01", "6 -3600 0 60");
        lenient("H X", "48 -18", "6 64800 0 -1080");
        check.sentence("A clash [..] when a known field that was not used is not the one of the resulting date");
        lenient("u-M-d H EEE", "2024-3-1 24 Sat", both(LocalDate.of(2024, 3, 2), 0));
        all("u-M-d H EEE", "2024-3-1 24 Fri", CLASH);
        all("u-M-d H EEE", "2024-3-1 23 Fri", both(LocalDate.of(2024, 3, 1), 82800));
        lenient("u-M-d H D", "2023-12-31 24 1", both(LocalDate.of(2024, 1, 1), 0));
        all("u-M-d H D", "2023-12-31 24 365", CLASH);
    }

    /** A field that the date is not made from: its own value, and the ones beside it. */
    private static void unused(String pattern, String text, LocalDate date, String letter, int value) {
        all(pattern + " " + letter, text + " " + value, date(date));
        if (value > 0) {
            all(pattern + " " + letter, text + " " + (value - 1), CLASH);
        }
        all(pattern + " " + letter, text + " " + (value + 1), CLASH);
    }

    private static void unusedWeekday(String pattern, String text, LocalDate date) {
        for (int day = 1; day <= 7; day++) {
            boolean right = date.getDayOfWeek().getValue() == day;
            all(pattern + " EEE", text + " " + DAYS[day - 1], right ? date(date) : CLASH);
        }
    }

    private static void unusedDateFields() {
        check.sentence("A clash, by any style, when a known field of the date or time that was not used is not the one of "
            + "the resulting date or time.");
        LocalDate[] dates = {LocalDate.of(2024, 2, 29), LocalDate.of(2021, 1, 3), LocalDate.of(2019, 12, 30),
            LocalDate.of(1, 1, 1), LocalDate.of(2020, 12, 31)};
        for (LocalDate date : dates) {
            int weekYear = date.get(IsoFields.WEEK_BASED_YEAR);
            int week = date.get(IsoFields.WEEK_OF_WEEK_BASED_YEAR);
            String byMonth = date.getYear() + "-" + date.getMonthValue() + "-" + date.getDayOfMonth();
            unused("u-M-d", byMonth, date, "D", date.getDayOfYear());
            unused("u-M-d", byMonth, date, "Y", weekYear);
            unused("u-M-d", byMonth, date, "w", week);
            unusedWeekday("u-M-d", byMonth, date);
            String byDay = date.getYear() + "-" + date.getDayOfYear();
            unused("u-D", byDay, date, "M", date.getMonthValue());
            unused("u-D", byDay, date, "d", date.getDayOfMonth());
            unused("u-D", byDay, date, "Y", weekYear);
            unused("u-D", byDay, date, "w", week);
            unusedWeekday("u-D", byDay, date);
            String byWeek = weekYear + " " + week + " " + DAYS[date.getDayOfWeek().getValue() - 1];
            unused("Y w EEE", byWeek, date, "u", date.getYear());
            unused("Y w EEE", byWeek, date, "M", date.getMonthValue());
            unused("Y w EEE", byWeek, date, "d", date.getDayOfMonth());
            unused("Y w EEE", byWeek, date, "D", date.getDayOfYear());
        }
        by(1, "u-M-d D", "2023-2-31 59", date(LocalDate.of(2023, 2, 28)));
        by(1, "u-M-d D", "2023-2-31 62", CLASH);
        by(2, "u-M-d D", "2023-2-31 62", date(LocalDate.of(2023, 3, 3)));
        by(2, "u-M-d D", "2023-2-31 59", CLASH);
        by(2, "u-D M", "2023-366 1", date(LocalDate.of(2024, 1, 1)));
        by(2, "u-D M", "2023-366 12", CLASH);
        // With u, M and d known the first row is whole, so that D is not used.
        by(2, "u-D M d", "2023-366 1 1", CLASH);
        by(2, "u-D M d", "2023-1 1 1", date(LocalDate.of(2023, 1, 1)));
    }

    private static void unusedTimeFields() {
        check.sentence("the hour is H, or when that is not known 12 * a + h when both are, else 0");
        for (int hour = 0; hour <= 23; hour++) {
            int half = hour % 12 == 0 ? 12 : hour % 12;
            for (int h = 0; h <= 13; h++) {
                all("H h", hour + " " + h, h == half ? time(3600 * hour) : CLASH);
            }
            all("H a", hour + " AM", hour < 12 ? time(3600 * hour) : CLASH);
            all("H a", hour + " PM", hour < 12 ? CLASH : time(3600 * hour));
            all("H h a", hour + " " + half + (hour < 12 ? " AM" : " PM"), time(3600 * hour));
            all("H h a", hour + " " + half + (hour < 12 ? " PM" : " AM"), CLASH);
        }
        for (int h = 0; h <= 24; h++) {
            all("h", String.valueOf(h), h == 12 ? time(0) : CLASH);
        }
        all("a", "AM", time(0));
        all("a", "PM", CLASH);
        all("h m", "12 59", time(3540));
        lenient("h m", "12 60", CLASH);
        lenient("h m", "1 60", time(3600));
        lenient("a H", "AM 24", time(0));
        lenient("a H", "PM 36", time(43200));
        lenient("a H:m", "PM 11:60", time(43200));
        all("a H:m", "AM 11:60", CLASH);
    }

    private static void rows() {
        check.sentence("made from the first of these rows that is known whole: u M d; u D; Y w E; a CLASH when none is");
        String[] letters = {"u", "M", "d", "D", "EEE", "Y", "w"};
        String[] values = {"2024", "2", "29", "60", "Thu", "2024", "9"};
        for (int chosen = 1; chosen < 128; chosen++) {
            StringBuilder pattern = new StringBuilder("'d'");
            StringBuilder text = new StringBuilder("d");
            for (int k = 0; k < 7; k++) {
                if ((chosen >> k & 1) == 1) {
                    pattern.append(' ').append(letters[k]);
                    text.append(' ').append(values[k]);
                }
            }
            boolean whole = (chosen & 7) == 7 || (chosen & 9) == 9 || (chosen & 112) == 112;
            all(pattern.toString(), text.toString(), whole ? date(LocalDate.of(2024, 2, 29)) : CLASH);
            all("H " + pattern, "1 " + text, whole ? both(LocalDate.of(2024, 2, 29), 3600) : CLASH);
        }
        all("u-M-d D", "2024-2-29 61", CLASH);
        all("u-D Y w EEE", "2024-60 2024 10 Thu", CLASH);
    }

    private static void nothingIsKnown() {
        check.sentence("A clash when nothing is known.");
        all("", "", CLASH);
        all("-", "-", CLASH);
        all("[]", "", CLASH);
        all("[H]", "", CLASH);
        all("[u-M-d]-", "-", CLASH);
        all("[H:]'5'", "5", CLASH);
        all("'Z'", "Z", CLASH);
        all("X", "Z", "4 0 0 0");
        all("s", "0", time(0));
        all("S", "0", time(0));
        check.sentence("When an offset is known there is one.");
        all("X", "-18", "4 64800 0 -1080");
        all("X", "+18", "4 -64800 0 1080");
        all("u-M-d X", "1970-1-1 +18", "5 -64800 0 1080");
        all("H X", "0 -18", "6 64800 0 -1080");
        all("u-M-d H X", "1970-1-1 23 -18", "7 " + (23 + 18) * 3600 + " 0 -1080");
    }

    public static void main(String[] args) {
        months();
        daysOfTheMonth();
        daysOfTheYear();
        weeks();
        years();
        hours();
        minutesAndSeconds();
        wholeDays();
        unusedDateFields();
        unusedTimeFields();
        rows();
        nothingIsKnown();
        check.finish();
    }
}
