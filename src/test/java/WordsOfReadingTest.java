import java.time.LocalDate;

/** The document on reading and resolving: each sentence in its order and in its words, with calls that show it. */
public final class WordsOfReadingTest {
    private static final Check check = new Check();
    private static final int STRICT = 0;
    private static final int SMART = 1;
    private static final int LENIENT = 2;
    private static final String CLASH = "clash";

    private static void by(int style, String pattern, String text, String want) {
        String got = Check.reading(pattern, text, style, false);
        check.due("read " + text + " by " + pattern + " by style " + style, got, want);
    }

    private static void reads(String pattern, String text, String want) {
        by(STRICT, pattern, text, want);
    }

    private static void fails(String pattern, String text, int place) {
        reads(pattern, text, "fails at " + place);
    }

    private static void loosely(String pattern, String text, String want) {
        check.due("read " + text + " by " + pattern + " loosely", Check.reading(pattern, text, STRICT, true), want);
    }

    private static String day(int year, int month, int day) {
        return "1 " + LocalDate.of(year, month, day).toEpochDay() * 86400L + " 0 0";
    }

    private static String dayAnd(int year, int month, int day, int second) {
        return "3 " + (LocalDate.of(year, month, day).toEpochDay() * 86400L + second) + " 0 0";
    }

    private static String time(int hour, int minute, int second) {
        return "2 " + (3600 * hour + 60 * minute + second) + " 0 0";
    }

    private static String billionths(int nano) {
        return "2 0 " + nano + " 0";
    }

    private static String offset(int minutes) {
        return "4 " + -60L * minutes + " 0 " + minutes;
    }

    private static void places() {
        check.sentence("READING a text by a pattern goes through the pieces, each of which begins at a PLACE of the "
            + "text, first 0, and either ENDS at a place, where the next one begins, or FAILS. What it reads makes a "
            + "value of its field KNOWN; it fails too when another value is known of it already.");
        reads("H:mm", "7:05", time(7, 5, 0));
        fails("H:mm", ":05", 0);
        fails("H:mm", "7.05", 1);
        fails("H:mm", "7:5", 2);
        reads("H HH", "7 07", time(7, 0, 0));
        fails("H HH", "7 08", 2);
        reads("u M MMM d", "2026 11 Nov 15", day(2026, 11, 15));
        fails("u M MMM d", "2026 11 Oct 15", 8);
        reads("S SSS", "5 500", billionths(500000000));
        fails("S SSS", "5 501", 2);
        reads("X x", "Z +00", offset(0));
        fails("X x", "Z +01", 2);
        reads("XXX x", "+05:30 +0530", offset(330));
        fails("x X", "+0530 +0531", 6);
    }

    private static void charactersAndNames() {
        check.sentence("A character must stand there. A NAME must stand there. With LOOSE reading small and capital "
            + "letters are alike in both (characters that stand for themselves, and NAMES), and for Z.");
        reads("'T'H", "T7", time(7, 0, 0));
        fails("'T'H", "t7", 0);
        loosely("'T'H", "t7", time(7, 0, 0));
        loosely("'t'H", "T7", time(7, 0, 0));
        loosely("@H", "`7", "fails at 0");
        loosely("{H", "(7", "fails at 0");
        reads("u MMMM d", "2026 November 15", day(2026, 11, 15));
        fails("u MMMM d", "2026 Nov 15", 5);
        fails("u MMMM d", "2026 NOVEMBER 15", 5);
        loosely("u MMMM d", "2026 nOVEMBER 15", day(2026, 11, 15));
        reads("Y w EEE", "2026 46 Sun", day(2026, 11, 15));
        loosely("Y w EEEE", "2026 46 sunday", day(2026, 11, 15));
        fails("h a", "7 am", 2);
        loosely("h a", "7 pM", time(19, 0, 0));
        fails("X", "z", 0);
        loosely("X", "z", offset(0));
    }

    private static void fixedNumbers() {
        check.sentence("A number with count 2 (or 3: D), also u and Y with 2, which stand for 2000 .. 2099, and S: "
            + "that many digits (of S as many as the count) must stand there, and it ends behind them, also when "
            + "more digits follow. S with count c makes known the number times 10 to the power 9 - c.");
        reads("uuMMdd", "261115", day(2026, 11, 15));
        fails("uuMMdd", "26115", 4);
        reads("uu-M-d", "00-1-1", day(2000, 1, 1));
        reads("uu-M-d", "99-1-1", day(2099, 1, 1));
        fails("uu-M-d", "-1-1-1", 0);
        reads("YYwwEEE", "2646Sun", day(2026, 11, 15));
        reads("uuuu-DDD", "2026-319", day(2026, 11, 15));
        fails("uuuu-DDD", "2026-31", 5);
        reads("HHmmss", "070509", time(7, 5, 9));
        reads("hhamm", "07PM05", time(19, 5, 0));
        fails("HH", "7", 0);
        fails("HH", "7:", 0);
        fails("HH", "070", 2);
        reads("HH'0'", "070", time(7, 0, 0));
        for (int count = 1; count <= 9; count++) {
            String digits = "102030405".substring(0, count);
            reads("S".repeat(count), digits, billionths(Integer.parseInt((digits + "00000000").substring(0, 9))));
            fails("S".repeat(count), digits.substring(1), 0);
            fails("S".repeat(count), digits + "0", count);
        }
    }

    private static void freeNumbers() {
        check.sentence("These are FIXED; other numbers, u and Y with 1 and 4 too, are FREE: they may have from min "
            + "to max digits: 1 to 2 for M, d, w, H, h, m, s; 1 to 3 for D; 1 to 9 for u, Y with 1; 4 to 9 with 4.");
        for (String letter : new String[] {"H", "m", "s"}) {
            int unit = letter.equals("H") ? 3600 : letter.equals("m") ? 60 : 1;
            fails(letter, "", 0);
            reads(letter, "7", "2 " + 7 * unit + " 0 0");
            reads(letter, "17", "2 " + 17 * unit + " 0 0");
            fails(letter, "017", 2);
        }
        reads("h a", "07 AM", time(7, 0, 0));
        fails("h a", "007 AM", 2);
        reads("u-M-d", "2026-1-1", day(2026, 1, 1));
        reads("u-M-d", "2026-01-01", day(2026, 1, 1));
        fails("u-M-d", "2026-001-1", 7);
        fails("u-M-d", "2026-1-001", 9);
        reads("Y w EEE", "2026 46 Sun", day(2026, 11, 15));
        fails("Y w EEE", "2026 046 Sun", 7);
        reads("u-D", "2026-1", day(2026, 1, 1));
        reads("u-D", "2026-001", day(2026, 1, 1));
        fails("u-D", "2026-0001", 8);
        reads("u-D", "7-1", day(7, 1, 1));
        reads("u-D", "000000007-1", day(7, 1, 1));
        fails("u-D", "0000000007-1", 9);
        fails("uuuu-D", "007-1", 0);
        reads("uuuu-D", "0007-1", day(7, 1, 1));
        reads("uuuu-D", "+999999999-1", day(999999999, 1, 1));
        fails("uuuu-D", "+9999999990-1", 10);
        check.sentence("Let R be the sum of the counts of the fixed pieces that follow directly on a free one in the "
            + "same section (or in none), one after the other, up to the first piece that is not fixed.");
        reads("Hmm", "705", time(7, 5, 0));
        reads("Hmmss", "70509", time(7, 5, 9));
        reads("HmmssSSS", "70509123", "2 25509 123000000 0");
        reads("uMMdd", "20261115", day(2026, 11, 15));
        reads("uDDD", "2026319", day(2026, 11, 15));
        fails("H[mm]", "705", 2);
        reads("[Hmm]", "705", time(7, 5, 0));
        fails("[H]mm", "705", 2);
        reads("Hmm:ss", "705:09", time(7, 5, 9));
        fails("H''mm", "705", 2);
        by(LENIENT, "Hm", "705", time(70 - 48, 5, 0));
        check.sentence("If N digits stand there, but of more than max + R only max + R are looked at: it fails when "
            + "N is less than min, else it has N - R digits, or min when that is more, and ends behind them.");
        reads("Hmm", "1705", time(17, 5, 0));
        fails("Hmm", "17059", 4);
        fails("Hmm", "05", 1);
        fails("Hmm", "7", 1);
        fails("Hmm", "", 0);
        reads("uDDD", "7001", day(7, 1, 1));
        fails("uDDD", "001", 1);
        reads("uuuuDDD", "2026319", day(2026, 11, 15));
        fails("uuuuDDD", "202631", 4);
        fails("uuuuDDD", "20263190", 0);
        reads("uuuuDDD", "+20263001", day(20263, 1, 1));
    }

    private static void signs() {
        check.sentence("Before the digits of u, Y with 1 may stand -, and with 4 - or +; then the digits stand "
            + "behind the sign. It fails when - is followed by the value 0; with 4 also when it has four digits "
            + "behind +, or more than four without a sign.");
        reads("u-D", "-7-1", day(-7, 1, 1));
        fails("u-D", "+7-1", 0);
        fails("u-D", "--7-1", 0);
        reads("u-D", "0-1", day(0, 1, 1));
        fails("u-D", "-0-1", 0);
        fails("u-D", "-000000000-1", 0);
        reads("uuuu-D", "-0007-1", day(-7, 1, 1));
        reads("uuuu-D", "-12345-1", day(-12345, 1, 1));
        fails("uuuu-D", "-007-1", 0);
        fails("uuuu-D", "-0000-1", 0);
        reads("uuuu-D", "0000-1", day(0, 1, 1));
        reads("uuuu-D", "+12345-1", day(12345, 1, 1));
        reads("uuuu-D", "+00007-1", day(7, 1, 1));
        fails("uuuu-D", "+1234-1", 0);
        fails("uuuu-D", "12345-1", 0);
        reads("Y w EEE", "-1 1 Mon", day(-1, 1, 4));
        fails("YYYY w EEE", "+2026 1 Mon", 0);
        reads("YYYY w EEE", "+10000 1 Mon", day(10000, 1, 3));
        fails("M-u-d", "-1-2026-1", 0);
    }

    private static void offsets() {
        check.sentence("X, x: Z alone, for X only, is 0. Otherwise + or -, two digits of hours, and minutes: with "
            + "count 1 two digits when at least two digits stand there, else none; with 2 two digits, with 3 : and "
            + "two digits. It fails when that is not there, the minutes are more than 59, or the offset is not -1080 "
            + ".. 1080.");
        for (int count = 1; count <= 3; count++) {
            reads("X".repeat(count), "Z", offset(0));
            fails("x".repeat(count), "Z", 0);
            fails("X".repeat(count), "Z0", 1);
        }
        for (String letter : new String[] {"X", "x"}) {
            reads(letter, "+05", offset(300));
            reads(letter, "-0530", offset(-330));
            fails(letter, "+053", 3);
            fails(letter, "+05300", 5);
            fails(letter, "+5", 0);
            fails(letter, "05", 0);
            fails(letter, "+0560", 0);
            reads(letter, "+18", offset(1080));
            reads(letter, "-1800", offset(-1080));
            fails(letter, "-1801", 0);
            fails(letter, "+19", 0);
            reads(letter + letter, "+0530", offset(330));
            fails(letter + letter, "+05", 0);
            fails(letter + letter, "+05:30", 0);
            reads(letter + letter + letter, "-05:30", offset(-330));
            fails(letter + letter + letter, "-0530", 0);
            fails(letter + letter + letter, "-05:3", 0);
            fails(letter + letter + letter, "-05:60", 0);
            reads(letter, "-00", offset(0));
        }
    }

    private static void sections() {
        check.sentence("A section never fails: when one of its pieces fails, all that its pieces made known is not "
            + "known again (what was known before stays), and it ends where it began.");
        reads("H[:mm]", "7:05", time(7, 5, 0));
        reads("H[:mm]", "7", time(7, 0, 0));
        fails("H[:mm]", "7:5", 1);
        reads("H[:mm]:m", "7:5", time(7, 5, 0));
        reads("[H:m:s]H:m", "7:5", time(7, 5, 0));
        reads("[H.]m", "7", time(0, 7, 0));
        reads("[[H:]m.]H:s", "7:5", time(7, 0, 5));
        reads("H[:HH:mm]:m", "7:08", time(7, 8, 0));
        reads("[H:[m]:s]", "7::5", time(7, 0, 5));
        reads("[H:[m]:s:]H::m", "7::5", time(7, 5, 0));
        check.sentence("The reading fails at the place where the first piece outside of sections that failed began, "
            + "or, if none did, at the place behind the last piece if that is not the end of the text.");
        fails("H:mm", "7:x", 2);
        fails("[H:]mm:ss", "7:x", 2);
        fails("[H:]mm:ss", "7.x", 0);
        fails("[H:]mm:ss", "7:05:x", 5);
        fails("H:mm", "7:055", 4);
        fails("H[:mm]", "7:05 ", 4);
        fails("", "7", 0);
    }

    private static void rows() {
        check.sentence("RESOLVING what is known, by a STYLE: 0 strict, 1 smart, 2 lenient. When one of u, M, d, D, "
            + "E, Y, w is known there is a date, made from the first of these rows that is known whole: u M d; u D; "
            + "Y w E; a CLASH when none is.");
        for (int style = STRICT; style <= LENIENT; style++) {
            by(style, "u M d", "2026 11 15", day(2026, 11, 15));
            by(style, "u D", "2026 319", day(2026, 11, 15));
            by(style, "Y w EEE", "2026 46 Sun", day(2026, 11, 15));
            String[] rows = {"u", "M", "d", "D", "Y", "w", "M d", "D M", "Y w", "Y D", "u w", "u M w"};
            for (String known : rows) {
                by(style, known, "1 1 1".substring(0, known.length()), CLASH);
            }
            by(style, "EEE", "Sun", CLASH);
            by(style, "EEE H", "Sun 7", CLASH);
            by(style, "Y EEE", "2026 Sun", CLASH);
            by(style, "w EEE u", "46 Sun 2026", CLASH);
            by(style, "u D M d", "2026 319 11 15", day(2026, 11, 15));
        }
        by(LENIENT, "u D M d", "2026 366 1 1", CLASH);
        by(LENIENT, "u D Y w EEE", "2026 366 2026 54 Fri", CLASH);
        by(LENIENT, "u D", "2026 366", day(2027, 1, 1));
        check.sentence("When one of H, h, a, m, s, S is known there is a time: the hour is H, or when that is not "
            + "known 12 * a + h (h as 0 when it is 12) when both are, else 0; minute, second and billionths are what "
            + "is known, or 0. When an offset is known there is one.");
        reads("H", "7", time(7, 0, 0));
        reads("h", "12", time(0, 0, 0));
        reads("a", "AM", time(0, 0, 0));
        reads("m", "7", time(0, 7, 0));
        reads("s", "7", time(0, 0, 7));
        reads("S", "7", billionths(700000000));
        reads("a h", "AM 7", time(7, 0, 0));
        reads("a h", "PM 7", time(19, 0, 0));
        reads("a h", "AM 12", time(0, 0, 0));
        reads("a h", "PM 12", time(12, 0, 0));
        reads("H a h", "19 PM 7", time(19, 0, 0));
        reads("a m", "AM 7", time(0, 7, 0));
        reads("H:m:s.SSS X", "7:8:9.012 -01", "6 29289 12000000 -60");
        reads("X", "+01", offset(60));
        reads("u-M-d X", "1970-1-1 +01", "5 -3600 0 60");
    }

    private static void strictly() {
        check.sentence("Strict: a clash when a value used so is not one that the field can have (d and D in that "
            + "month and year, w in that year).");
        for (int style = STRICT; style <= SMART; style++) {
            by(style, "u-M-d", "2026-0-1", CLASH);
            by(style, "u-M-d", "2026-13-1", CLASH);
            by(style, "u-M-d", "2026-1-0", CLASH);
            by(style, "u-M-d", "2026-1-32", CLASH);
            by(style, "u-D", "2026-0", CLASH);
            by(style, "u-D", "2026-365", day(2026, 12, 31));
            by(style, "u-D", "2026-366", CLASH);
            by(style, "u-D", "2024-366", day(2024, 12, 31));
            by(style, "u-D", "2024-367", CLASH);
            by(style, "Y w EEE", "2026 0 Mon", CLASH);
            by(style, "Y w EEE", "2026 53 Sun", day(2027, 1, 3));
            by(style, "Y w EEE", "2026 54 Mon", CLASH);
            by(style, "Y w EEE", "2025 53 Mon", CLASH);
            by(style, "H", "24", CLASH);
            by(style, "m", "60", CLASH);
            by(style, "s", "60", CLASH);
            by(style, "h a", "0 AM", CLASH);
            by(style, "h a", "13 AM", CLASH);
        }
        by(STRICT, "u-M-d", "2026-2-28", day(2026, 2, 28));
        by(STRICT, "u-M-d", "2026-2-29", CLASH);
        by(STRICT, "u-M-d", "2024-2-29", day(2024, 2, 29));
        by(STRICT, "u-M-d", "2024-2-30", CLASH);
        by(STRICT, "u-M-d", "2026-11-31", CLASH);
        check.sentence("Smart: the same, but a d up to 31 that the month does not have is its last day.");
        by(SMART, "u-M-d", "2026-2-28", day(2026, 2, 28));
        by(SMART, "u-M-d", "2026-2-29", day(2026, 2, 28));
        by(SMART, "u-M-d", "2026-2-31", day(2026, 2, 28));
        by(SMART, "u-M-d", "2026-2-32", CLASH);
        by(SMART, "u-M-d", "2024-2-30", day(2024, 2, 29));
        by(SMART, "u-M-d", "2026-11-31", day(2026, 11, 30));
        // "Up to 31" is taken of the days behind the month's last one: no month's days begin with 0.
        by(SMART, "u-M-d", "2026-11-0", CLASH);
    }

    private static void leniently() {
        check.sentence("Lenient: from the first day of the year u, M - 1 months and d - 1 days, or D - 1 days, "
            + "later; from the Monday of week 1 of Y, w - 1 weeks and E - 1 days later; hours, minutes and seconds "
            + "are added up, and whole days go to the date (nowhere if there is none).");
        by(LENIENT, "u-M-d", "2026-0-0", day(2025, 11, 30));
        by(LENIENT, "u-M-d", "2026-14-30", day(2027, 3, 2));
        by(LENIENT, "u-M-d", "2026-2-29", day(2026, 3, 1));
        by(LENIENT, "u-M-d", "2026-99-99", day(2034, 6, 7));
        by(LENIENT, "u-D", "2026-0", day(2025, 12, 31));
        by(LENIENT, "u-D", "2026-999", day(2028, 9, 25));
        by(LENIENT, "Y w EEE", "2026 0 Mon", day(2025, 12, 22));
        by(LENIENT, "Y w EEE", "2026 54 Sun", day(2027, 1, 10));
        by(LENIENT, "H:m:s", "24:60:60", time(1, 1, 0));
        by(LENIENT, "h a", "13 PM", time(1, 0, 0));
        by(LENIENT, "h a", "0 PM", time(12, 0, 0));
        by(LENIENT, "u-M-d H:m:s", "2026-12-31 23:59:60", dayAnd(2027, 1, 1, 0));
        by(LENIENT, "u-M-d H:m:s", "2026-12-31 99:99:99", dayAnd(2027, 1, 4, 4 * 3600 + 40 * 60 + 39));
        by(LENIENT, "u-M-d h a", "2026-12-31 13 PM", dayAnd(2027, 1, 1, 3600));
        by(LENIENT, "H X", "25 +01", "6 0 0 60");
    }

    private static void unusedFields() {
        check.sentence("A clash, by any style, when a known field of the date or time that was not used is not the "
            + "one of the resulting date or time. A clash when nothing is known.");
        for (int style = STRICT; style <= LENIENT; style++) {
            by(style, "u-M-d EEE", "2026-11-15 Sun", day(2026, 11, 15));
            by(style, "u-M-d EEE", "2026-11-15 Mon", CLASH);
            by(style, "u-M-d D w Y", "2026-11-15 319 46 2026", day(2026, 11, 15));
            by(style, "u-M-d D", "2026-11-15 320", CLASH);
            by(style, "u-M-d w", "2026-11-15 47", CLASH);
            by(style, "u-M-d Y", "2026-11-15 2027", CLASH);
            by(style, "u-D M", "2026-319 10", CLASH);
            by(style, "u-D d", "2026-319 14", CLASH);
            by(style, "Y w EEE u", "2026 53 Fri 2026", CLASH);
            by(style, "Y w EEE u", "2026 53 Fri 2027", day(2027, 1, 1));
            by(style, "H h", "19 7", time(19, 0, 0));
            by(style, "H h", "19 8", CLASH);
            by(style, "H a", "19 AM", CLASH);
            by(style, "h", "1", CLASH);
            by(style, "a", "PM", CLASH);
            by(style, "", "", CLASH);
            by(style, "-[H]", "-", CLASH);
        }
        by(SMART, "u-M-d EEE", "2026-2-31 Sat", day(2026, 2, 28));
        by(LENIENT, "u-M-d EEE", "2026-2-31 Tue", day(2026, 3, 3));
        by(LENIENT, "u-M-d EEE H", "2026-11-15 Mon 24", dayAnd(2026, 11, 16, 0));
        by(LENIENT, "u-M-d EEE H", "2026-11-15 Sun 24", CLASH);
        by(LENIENT, "H h a", "24 12 AM", time(0, 0, 0));
        by(LENIENT, "h m", "1 60", time(1, 0, 0));
        by(LENIENT, "a m H", "PM 60 11", time(12, 0, 0));
    }

    public static void main(String[] args) {
        places();
        charactersAndNames();
        fixedNumbers();
        freeNumbers();
        signs();
        offsets();
        sections();
        rows();
        strictly();
        leniently();
        unusedFields();
        check.finish();
    }
}
