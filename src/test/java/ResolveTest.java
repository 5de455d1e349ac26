import java.time.LocalDate;

/** Promise 11: how what is known becomes a moment, by each style. */
public final class ResolveTest {
    private static final Check check = new Check();
    private static final String[] STYLES = {"strict", "smart", "lenient"};

    private static void all(String pattern, String text, String... wants) {
        for (int style = 0; style < 3; style++) {
            String want = wants.length == 1 ? wants[0] : wants[style];
            check.due(STYLES[style] + " " + text + " by " + pattern, Check.reading(pattern, text, style, false), want);
        }
    }

    private static String date(int year, int month, int day) {
        return "1 " + LocalDate.of(year, month, day).toEpochDay() * 86400L + " 0 0";
    }

    private static String time(int seconds) {
        return "2 " + seconds + " 0 0";
    }

    private static void byMonth() {
        String p = "u-M-d";
        all(p, "2024-2-29", date(2024, 2, 29));
        all(p, "2023-2-29", "clash", date(2023, 2, 28), date(2023, 3, 1));
        all(p, "2023-2-31", "clash", date(2023, 2, 28), date(2023, 3, 3));
        all(p, "2024-2-30", "clash", date(2024, 2, 29), date(2024, 3, 1));
        all(p, "1900-2-29", "clash", date(1900, 2, 28), date(1900, 3, 1));
        all(p, "2000-2-29", date(2000, 2, 29));
        all(p, "-4-2-29", date(-4, 2, 29));
        all(p, "-100-2-29", "clash", date(-100, 2, 28), date(-100, 3, 1));
        all(p, "2023-4-31", "clash", date(2023, 4, 30), date(2023, 5, 1));
        all(p, "2023-4-32", "clash", "clash", date(2023, 5, 2));
        all(p, "2023-1-32", "clash", "clash", date(2023, 2, 1));
        all(p, "2023-1-31", date(2023, 1, 31));
        all(p, "2023-12-31", date(2023, 12, 31));
        all(p, "2023-1-99", "clash", "clash", date(2023, 4, 9));
        all(p, "2023-1-0", "clash", "clash", date(2022, 12, 31));
        all(p, "2023-0-1", "clash", "clash", date(2022, 12, 1));
        all(p, "2023-0-0", "clash", "clash", date(2022, 11, 30));
        all(p, "2023-13-1", "clash", "clash", date(2024, 1, 1));
        all(p, "2023-13-31", "clash", "clash", date(2024, 1, 31));
        all(p, "2023-99-1", "clash", "clash", date(2031, 3, 1));
        all(p, "2023-14-30", "clash", "clash", date(2024, 3, 1));
        all(p, "999999999-12-31", date(999999999, 12, 31));
        all(p, "999999999-13-1", "clash", "clash", "1 31556889832780800 0 0");
        all(p, "-999999999-0-31", "clash", "clash", "1 -31557014135683200 0 0");
    }

    private static void byYearDay() {
        all("u-D", "2023-1", date(2023, 1, 1));
        all("u-D", "2023-365", date(2023, 12, 31));
        all("u-D", "2023-366", "clash", "clash", date(2024, 1, 1));
        all("u-D", "2024-366", date(2024, 12, 31));
        all("u-D", "2024-367", "clash", "clash", date(2025, 1, 1));
        all("u-D", "2023-0", "clash", "clash", date(2022, 12, 31));
        all("u-D", "2023-999", "clash", "clash", date(2025, 9, 25));
        all("u-D", "2023-60", date(2023, 3, 1));
        all("u-D", "2024-60", date(2024, 2, 29));
    }

    private static void byWeek() {
        String p = "Y w EEE";
        all(p, "2020 53 Sun", date(2021, 1, 3));
        all(p, "2021 53 Mon", "clash", "clash", date(2022, 1, 3));
        all(p, "2021 53 Sun", "clash", "clash", date(2022, 1, 9));
        all(p, "2021 52 Sun", date(2022, 1, 2));
        all(p, "2020 1 Mon", date(2019, 12, 30));
        all(p, "2020 0 Mon", "clash", "clash", date(2019, 12, 23));
        all(p, "2020 54 Mon", "clash", "clash", date(2021, 1, 4));
        all(p, "2020 99 Fri", "clash", "clash", date(2021, 11, 19));
        all(p, "1970 1 Thu", date(1970, 1, 1));
        all(p, "-1 1 Mon", date(-1, 1, 4));
        for (int year = -500; year <= 2500; year++) {
            LocalDate last = LocalDate.of(year, 12, 28);
            int weeks = last.get(java.time.temporal.IsoFields.WEEK_OF_WEEK_BASED_YEAR);
            check.due("53 weeks in " + year, Check.reading(p, year + " 53 Thu", 0, false).equals("clash"), weeks < 53);
            check.due("52 weeks in " + year, Check.reading(p, year + " 52 Sun", 1, false).equals("clash"), false);
        }
    }

    private static void rows() {
        all("u", "2024", "clash");
        all("M", "1", "clash");
        all("d", "1", "clash");
        all("D", "1", "clash");
        all("EEE", "Mon", "clash");
        all("Y", "2024", "clash");
        all("w", "1", "clash");
        all("u-M", "2024-1", "clash");
        all("M-d", "1-1", "clash");
        all("u d", "2024 1", "clash");
        all("Y w", "2024 1", "clash");
        all("Y D", "2024 1", "clash");
        all("u w EEE", "2024 1 Mon", "clash");
        all("Y M d", "2024 1 1", "clash");
        all("M H", "1 5", "clash");
        all("", "", "clash");
        all("[u]-", "-", "clash");
        all("'abc'", "abc", "clash");
        // The first row that is whole makes the date; what the others need must agree.
        all("u-M-d D", "2024-3-1 61", date(2024, 3, 1));
        all("u-M-d D", "2024-3-1 60", "clash");
        all("u-M-d EEE", "2024-3-1 Fri", date(2024, 3, 1));
        all("u-M-d EEE", "2024-3-1 Sat", "clash");
        all("u-M-d w", "2024-3-1 9", date(2024, 3, 1));
        all("u-M-d w", "2024-3-1 10", "clash");
        all("u-M-d Y", "2021-1-3 2020", date(2021, 1, 3));
        all("u-M-d Y", "2021-1-3 2021", "clash");
        all("u-M-d Y w EEE", "2021-1-3 2020 53 Sun", date(2021, 1, 3));
        all("u-D M", "2024-61 3", date(2024, 3, 1));
        all("u-D M", "2024-61 2", "clash");
        all("u-D d", "2024-61 1", date(2024, 3, 1));
        all("u-D d", "2024-61 2", "clash");
        all("Y w EEE u", "2020 53 Sun 2021", date(2021, 1, 3));
        all("Y w EEE u", "2020 53 Sun 2020", "clash");
        all("Y w EEE M d", "2020 53 Sun 1 3", date(2021, 1, 3));
        all("Y w EEE M d", "2020 53 Sun 1 4", "clash");
        all("Y w EEE D", "2020 53 Sun 3", date(2021, 1, 3));
        all("Y w EEE D", "2020 53 Sun 4", "clash");
        // Smart and lenient dates have other fields than those that were read.
        all("u-M-d EEE", "2023-2-31 Tue", "clash", date(2023, 2, 28), "clash");
        all("u-M-d EEE", "2023-2-31 Fri", "clash", "clash", date(2023, 3, 3));
        all("u-M-d D", "2023-2-31 62", "clash", "clash", date(2023, 3, 3));
        all("u-D M", "2023-366 1", "clash", "clash", date(2024, 1, 1));
        all("u-D Y", "2023-366 2024", "clash", "clash", date(2024, 1, 1));
    }

    private static void times() {
        all("H:m:s", "23:59:59", time(86399));
        all("H:m:s", "24:0:0", "clash", "clash", time(0));
        all("H:m:s", "23:60:0", "clash", "clash", time(0));
        all("H:m:s", "23:59:60", "clash", "clash", time(0));
        all("H:m:s", "99:99:99", "clash", "clash", time((99 * 3600 + 99 * 60 + 99) % 86400));
        all("H", "0", time(0));
        all("m", "59", time(3540));
        all("s", "59", time(59));
        all("m:s", "61:61", "clash", "clash", time(3721));
        all("SSS", "001", "2 0 1000000 0");
        all("H.S", "5.9", "2 18000 900000000 0");
        all("h a", "12 AM", time(0));
        all("h a", "12 PM", time(43200));
        all("h a", "1 AM", time(3600));
        all("h a", "11 PM", time(82800));
        all("h a", "0 AM", "clash", "clash", time(0));
        all("h a", "0 PM", "clash", "clash", time(43200));
        all("h a", "13 AM", "clash", "clash", time(46800));
        all("h a", "13 PM", "clash", "clash", time(3600));
        all("h a", "99 PM", "clash", "clash", time(111 * 3600 % 86400));
    }

    private static void unusedTimes() {
        all("h", "12", time(0));
        all("h", "1", "clash");
        all("h", "0", "clash");
        all("h:m", "12:5", time(300));
        all("h:m", "3:5", "clash");
        all("a", "AM", time(0));
        all("a", "PM", "clash");
        all("a m", "PM 5", "clash");
        all("a m", "AM 5", time(300));
        all("H h", "13 1", time(46800));
        all("H h", "13 2", "clash");
        all("H h", "0 12", time(0));
        all("H h", "0 0", "clash");
        all("H a", "13 PM", time(46800));
        all("H a", "13 AM", "clash");
        all("H h a", "13 1 PM", time(46800));
        all("H h a", "1 1 PM", "clash");
        all("H a", "24 AM", "clash", "clash", time(0));
        all("H a", "24 PM", "clash");
        all("H h:m a", "11 12:60 PM", "clash", "clash", time(43200));
        all("h a:m", "12 AM:99", "clash", "clash", time(5940));
        all("h m", "1 60", "clash", "clash", time(3600));
        all("a m", "PM 99", "clash");
    }

    private static void wholeDays() {
        String p = "u-M-d H:m:s";
        all(p, "2024-2-28 23:59:59", moment(3, LocalDate.of(2024, 2, 28), 86399, 0));
        all(p, "2024-2-28 24:0:0", "clash", "clash", moment(3, LocalDate.of(2024, 2, 29), 0, 0));
        all(p, "2024-2-28 99:99:99", "clash", "clash",
            moment(3, LocalDate.of(2024, 2, 28), 99 * 3600 + 99 * 60 + 99, 0));
        // The day of the week is looked at when the whole days have gone to the date.
        all("u-M-d H EEE", "2024-3-1 24 Sat", "clash", "clash", moment(3, LocalDate.of(2024, 3, 2), 0, 0));
        all("u-M-d H EEE", "2024-3-1 24 Fri", "clash");
        all("u-D H", "2023-365 24", "clash", "clash", moment(3, LocalDate.of(2024, 1, 1), 0, 0));
        all("Y w EEE H", "2020 53 Sun 48", "clash", "clash", moment(3, LocalDate.of(2021, 1, 5), 0, 0));
    }

    private static String moment(int parts, LocalDate date, long second, int offset) {
        return parts + " " + (date.toEpochDay() * 86400L + second - 60L * offset) + " 0 " + offset;
    }

    private static void offsets() {
        all("X", "+01", "4 -3600 0 60");
        all("X", "-18", "4 64800 0 -1080");
        all("u-M-dX", "2024-3-1+01", moment(5, LocalDate.of(2024, 3, 1), 0, 60));
        all("HX", "5-0130", "6 23400 0 -90");
        all("u-M-d HX", "2024-3-1 23-05", moment(7, LocalDate.of(2024, 3, 1), 82800, -300));
        all("u-M-d EEE H a X", "2024-3-1 Fri 23 PM -05", moment(7, LocalDate.of(2024, 3, 1), 82800, -300));
        all("HX", "24+01", "clash", "clash", "6 -3600 0 60");
        all("u X", "2024 +01", "clash");
        all("u-M-dX", "999999999-12-31-18", moment(5, LocalDate.of(999999999, 12, 31), 0, -1080));
    }

    public static void main(String[] args) {
        byMonth();
        byYearDay();
        byWeek();
        rows();
        times();
        unusedTimes();
        wholeDays();
        offsets();
        check.finish();
    }
}
