import java.time.LocalDate;
import java.time.temporal.IsoFields;

/** Promise 7: field, against the library's calendar. */
public final class FieldTest {
    private static final Check check = new Check();

    private static void letters() {
        String letters = "uMdDEwYHhamsSX";
        int[] values = {2023, 11, 14, 318, 2, 46, 2023, 20, 8, 1, 43, 20, 987654321, -90};
        for (int first = 0; first <= 65535; first += 256) {
            SkeletonClock clock = new SkeletonClock();
            clock.moment(1700000000L, 987654321, -90, 4);
            for (int code = first; code < first + 256; code++) {
                int known = letters.indexOf((char) code);
                check.due("field " + code, clock.field((char) code), known < 0 ? SkeletonClock.NONE : values[known]);
            }
        }
    }

    private static void hours() {
        SkeletonClock clock = new SkeletonClock();
        for (int hour = 0; hour < 24; hour++) {
            clock.moment(hour * 3600L - 86400L + 59 * 60 + 58, 0, 0, 2);
            check.due("H", clock.field('H'), hour);
            check.due("h of " + hour, clock.field('h'), hour == 0 ? 12 : hour > 12 ? hour - 12 : hour);
            check.due("a of " + hour, clock.field('a'), hour < 12 ? 0 : 1);
            check.due("m", clock.field('m'), 59);
            check.due("s", clock.field('s'), 58);
        }
    }

    private static SkeletonClock day(LocalDate date) {
        SkeletonClock clock = new SkeletonClock();
        long day = date.toEpochDay();
        check.due("moment " + date, clock.moment(day * 86400L - 60L * 719, 0, 719, 1), true);
        check.due("u " + date, clock.field('u'), date.getYear());
        check.due("M " + date, clock.field('M'), date.getMonthValue());
        check.due("d " + date, clock.field('d'), date.getDayOfMonth());
        check.due("D " + date, clock.field('D'), date.getDayOfYear());
        check.due("E " + date, clock.field('E'), date.getDayOfWeek().getValue());
        check.due("w " + date, clock.field('w'), date.get(IsoFields.WEEK_OF_WEEK_BASED_YEAR));
        return clock;
    }

    private static void weekYear(LocalDate date) {
        check.due("Y " + date, day(date).field('Y'), date.get(IsoFields.WEEK_BASED_YEAR));
    }

    private static void dates() {
        // One whole cycle of the calendar, then the edges of years far away.
        for (long day = -146097L; day <= 146097L; day++) {
            weekYear(LocalDate.ofEpochDay(day));
        }
        int[] years = {-999999998, -400000001, -400000000, -10000, -401, -400, -399, -101, -100, -99, -5, -4, -1, 0, 1,
            4, 100, 400, 9999, 10000, 400000000, 400000001, 999999998};
        for (int year : years) {
            for (int k = 1; k <= 366; k++) {
                weekYear(LocalDate.of(year, 1, 1).plusDays(k - 1));
            }
        }
        for (int k = 0; k < 8; k++) {
            day(LocalDate.MAX.minusDays(k));
        }
        for (int k = 7; k < 300; k++) {
            weekYear(LocalDate.MIN.plusDays(k));
        }
    }

    private static void edgesOfTheYears() {
        SkeletonClock clock = new SkeletonClock();
        // -999999999 begins as 1 does, 999999999 ends as 1999 does: on a Monday and on a Friday.
        clock.moment(-31557014135596800L, 0, 0, 1);
        check.due("E of the first day", clock.field('E'), 1);
        check.due("Y of the first day", clock.field('Y'), -999999999);
        check.due("w of the first day", clock.field('w'), 1);
        clock.moment(31556889832780799L, 0, 0, 1);
        check.due("E of the last day", clock.field('E'), 5);
        check.due("Y of the last day", clock.field('Y'), 999999999);
        check.due("w of the last day", clock.field('w'), 52);
    }

    public static void main(String[] args) {
        letters();
        hours();
        dates();
        edgesOfTheYears();
        check.finish();
    }
}
