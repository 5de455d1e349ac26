import java.time.LocalDate;

/**
 * The document from its first line up to how a moment is printed: each sentence in its order and in its words, with
 * calls that show it.
 */
public final class WordsOfTermsTest {
    private static final Check check = new Check();
    private static final int GOOD = SkeletonClock.NONE;

    private static SkeletonClock at(LocalDate date, int second, int nano, int minutes, int parts) {
        SkeletonClock clock = new SkeletonClock();
        clock.moment(date.toEpochDay() * 86400L + second - 60L * minutes, nano, minutes, parts);
        return clock;
    }

    private static SkeletonClock onDay(int year, int month, int day) {
        return at(LocalDate.of(year, month, day), 0, 0, 0, 7);
    }

    private static SkeletonClock inSecond(int second) {
        return at(LocalDate.of(1970, 1, 1), second, 0, 0, 7);
    }

    private static SkeletonClock withOffset(int minutes) {
        return at(LocalDate.of(1970, 1, 1), 0, 0, minutes, 7);
    }

    private static void field(SkeletonClock clock, char letter, int want) {
        check.due("field " + letter, clock.field(letter), want);
    }

    private static void prints(SkeletonClock clock, String pattern, String want) {
        check.due("print by " + pattern, Check.printed(clock, pattern), want);
    }

    private static void fault(String text, int want) {
        check.due("define " + text, Check.define(new SkeletonClock(), 0, text), want);
    }

    private static void whatItIs() {
        check.sentence("Prints dates and times by patterns, and reads them back; finds the pattern that is nearest "
            + "to the fields one asks for.");
        SkeletonClock clock = at(LocalDate.of(2026, 11, 15), 45296, 0, 0, 7);
        Check.define(clock, 2, "uuuu-MM-dd HH:mm:ss");
        Check.define(clock, 4, "EEEE");
        check.due("print(2)", clock.print(2), 19);
        check.due("page", Check.page(clock), "2026-11-15 12:34:56");
        clock.copy();
        check.due("read(2)", clock.read(2, 0, false), GOOD);
        check.due("seconds()", clock.seconds(), LocalDate.of(2026, 11, 15).toEpochDay() * 86400L + 45296);
        check.due("match uMd", Check.match(clock, "uMd"), 2);
        check.due("match EEE", Check.match(clock, "EEE"), 4);
        check.sentence("An object is used for at most 512 calls after it has been made; what later calls answer is "
            + "free.");
        SkeletonClock old = new SkeletonClock();
        for (int call = 1; call <= 510; call++) {
            check.due("field u, call " + call, old.field('u'), 1970);
        }
        check.due("define(0), call 511", old.define(0), GOOD);
        check.due("print(0), call 512", old.print(0), 0);
    }

    private static void dates() {
        check.sentence("FIELDS, with their letters. A date has u, the YEAR in the Gregorian calendar carried on "
            + "backwards and forwards without end (the year before 1 is 0, before that -1; leap years are those "
            + "divisible by 4, but of those divisible by 100 only those divisible by 400);");
        long yearOne = LocalDate.of(1, 1, 1).toEpochDay() * 86400L;
        SkeletonClock clock = new SkeletonClock();
        clock.moment(yearOne, 0, 0, 7);
        field(clock, 'u', 1);
        clock.moment(yearOne - 1, 0, 0, 7);
        field(clock, 'u', 0);
        clock.moment(yearOne - 366 * 86400L - 1, 0, 0, 7);
        field(clock, 'u', -1);
        for (int year : new int[] {2024, 2000, 4, 0, -4, -400}) {
            field(onDay(year, 12, 31), 'D', 366);
        }
        for (int year : new int[] {2023, 1900, 2100, 1, -1, -100}) {
            field(onDay(year, 12, 31), 'D', 365);
        }
        check.sentence("M, the month 1 .. 12; d, the day of the month; D, the day of the year, from 1; E, the day of "
            + "the week, 1 Monday .. 7 Sunday;");
        field(onDay(2026, 1, 31), 'M', 1);
        field(onDay(2026, 12, 1), 'M', 12);
        field(onDay(2026, 1, 31), 'd', 31);
        field(onDay(2026, 12, 1), 'd', 1);
        field(onDay(2026, 1, 1), 'D', 1);
        field(onDay(2026, 12, 1), 'D', 335);
        for (int day = 0; day < 7; day++) {
            field(onDay(2026, 11, 9 + day), 'E', day + 1);
        }
        check.sentence("w, the WEEK, and Y, its year: weeks begin on Mondays, belong to the year in which their "
            + "Thursday lies, and are numbered from 1 in it.");
        prints(onDay(2020, 12, 31), "Y-w-EEE", "2020-53-Thu");
        prints(onDay(2021, 1, 3), "Y-w-EEE", "2020-53-Sun");
        prints(onDay(2021, 1, 4), "Y-w-EEE", "2021-1-Mon");
        prints(onDay(2024, 12, 29), "Y-w-EEE", "2024-52-Sun");
        prints(onDay(2024, 12, 30), "Y-w-EEE", "2025-1-Mon");
        prints(onDay(2026, 1, 1), "Y-w-EEE", "2026-1-Thu");
        prints(onDay(2027, 1, 1), "Y-w-EEE", "2026-53-Fri");
    }

    private static void timesAndOffsets() {
        check.sentence("A time has H, the hour 0 .. 23; h, the hour 1 .. 12 (12 for 0 and 12); a, 0 before noon and "
            + "1 after it; m, the minute; s, the second; S, the billionths of the second.");
        for (int hour = 0; hour <= 23; hour++) {
            SkeletonClock clock = inSecond(3600 * hour + 59 * 60 + 58);
            field(clock, 'H', hour);
            field(clock, 'h', hour == 0 || hour == 12 ? 12 : hour < 12 ? hour : hour - 12);
            field(clock, 'a', hour < 12 ? 0 : 1);
            field(clock, 'm', 59);
            field(clock, 's', 58);
        }
        field(inSecond(43199), 'a', 0);
        field(inSecond(43200), 'a', 1);
        field(at(LocalDate.of(1970, 1, 1), 0, 999999999, 0, 7), 'S', 999999999);
        check.sentence("An OFFSET, letter X or x, is a number of minutes -1080 .. 1080.");
        prints(withOffset(-1080), "XXX xxx", "-18:00 -18:00");
        prints(withOffset(1080), "XXX xxx", "+18:00 +18:00");
        check.due("moment with 1081 minutes", new SkeletonClock().moment(0L, 0, 1081, 7), false);
        check.due("moment with -1081 minutes", new SkeletonClock().moment(0L, 0, -1081, 7), false);
    }

    private static void momentsAndSeconds() {
        check.sentence("A MOMENT has PARTS, at least one: a date (1), a time (2), an offset (4); their sum says "
            + "which. Only the fields of its parts are there.");
        LocalDate day = LocalDate.of(2026, 11, 15);
        for (int parts = 1; parts <= 7; parts++) {
            String date = (parts & 1) != 0 ? "Sun " : "";
            String time = (parts & 2) != 0 ? "AM " : "";
            String offset = (parts & 4) != 0 ? "+01 +0100 " : "";
            prints(at(day, 0, 0, 60, parts), "[EEE ][a ][X ][xx ]", date + time + offset);
        }
        for (char letter : "uYMdDwHhams".toCharArray()) {
            boolean ofDate = "uYMdDw".indexOf(letter) >= 0;
            prints(at(day, 0, 0, 0, ofDate ? 6 : 5), "" + letter, "-1");
            prints(at(day, 0, 0, 0, ofDate ? 6 : 5), "-[" + letter + "]", "-");
        }
        check.due("moment without parts", new SkeletonClock().moment(0L, 0, 0, 0), false);
        check.sentence("SECONDS count from the beginning of 1970-01-01 without an offset, every day having 86400: a "
            + "moment's seconds are those of its local date (1970-01-01 without one) and time (0:00:00 without one), "
            + "less 60 times its offset (0 without one).");
        String pattern = "[u-M-d][ H:m:s][ XXX]";
        check.due("a date", Check.reading(pattern, "1970-1-2", 0, false), "1 86400 0 0");
        check.due("a date before", Check.reading(pattern, "1969-12-31", 0, false), "1 -86400 0 0");
        check.due("a time", Check.reading(pattern, " 1:2:3", 0, false), "2 3723 0 0");
        check.due("a date and a time", Check.reading(pattern, "1970-1-2 1:2:3", 0, false), "3 90123 0 0");
        check.due("an offset", Check.reading(pattern, " +01:30", 0, false), "4 -5400 0 90");
        check.due("a date and an offset", Check.reading(pattern, "1970-1-2 -01:30", 0, false), "5 91800 0 -90");
        check.due("a time and an offset", Check.reading(pattern, " 1:2:3 +01:30", 0, false), "6 -1677 0 90");
        check.due("all", Check.reading(pattern, "1970-1-2 1:2:3 +01:30", 0, false), "7 84723 0 90");
    }

    private static void texts() {
        check.sentence("The TEXT is a row of at most 60 characters with codes 32 .. 126, typed one by one; places "
            + "count from 0.");
        SkeletonClock clock = new SkeletonClock();
        for (int c = 0; c <= 300; c++) {
            check.due("type " + c, clock.type((char) c), c >= 32 && c <= 91);
        }
        check.due("the fault of a text that begins with 32 .. 91", clock.define(0), 7);
        check.due("type 92", clock.type((char) 92), true);
        check.due("type 126", clock.type((char) 126), true);
        check.due("type 127", clock.type((char) 127), false);
        check.due("define of both", clock.define(0), GOOD);
        prints(clock, "\\~", "\\~");
        check.sentence("Some calls read it; they leave it empty.");
        check.due("define", Check.define(clock, 0, "H"), GOOD);
        check.due("match", Check.match(clock, "H"), 0);
        check.due("text after both", Check.textLength(clock), 0);
        Check.type(clock, "5");
        check.due("read", clock.read(0, 0, false), GOOD);
        check.due("text after it", Check.textLength(clock), 0);
    }

    private static void allowed(String letters, int... counts) {
        for (char letter : letters.toCharArray()) {
            for (int length = 1; length <= 60; length++) {
                boolean good = false;
                for (int count : counts) {
                    good |= count == length;
                }
                fault(String.valueOf(letter).repeat(length), good ? GOOD : 0);
            }
        }
    }

    private static void patterns() {
        check.sentence("A PATTERN is read from left to right as a row of PIECES, at most 20:");
        fault("-".repeat(20), GOOD);
        fault("-".repeat(21), 20);
        check.sentence("a run of one letter (a .. z, A .. Z), as long as it goes, is a piece for its field, with the "
            + "run's length as its COUNT. Allowed are: u and Y with 1, 2, 4; M with 1 to 4; d, w, H, h, m, s with 1, "
            + "2; D with 1, 3; E with 3, 4; a with 1; S with 1 to 9; X and x with 1 to 3;");
        allowed("uY", 1, 2, 4);
        allowed("M", 1, 2, 3, 4);
        allowed("dwHhms", 1, 2);
        allowed("D", 1, 3);
        allowed("E", 3, 4);
        allowed("a", 1);
        allowed("S", 1, 2, 3, 4, 5, 6, 7, 8, 9);
        allowed("Xx", 1, 2, 3);
        allowed("bcefgijklnopqrtvyzABCFGIJKLNOPQRTUVWZ");
        prints(onDay(2026, 11, 15), "uuuuMM", "202611");
        check.sentence("from one ' to the next is a QUOTE: each character between is a piece that stands for itself; "
            + "but two ' directly behind one another, inside a quote or outside of one, are one piece that stands "
            + "for ' (so '' alone is no quote);");
        prints(onDay(2026, 11, 15), "'day 'd' [of] 'M", "day 15 [of] 11");
        prints(onDay(2026, 11, 15), "''d''", "'15'");
        prints(onDay(2026, 11, 15), "'o''clock'", "o'clock");
        prints(onDay(2026, 11, 15), "''''", "''");
        prints(onDay(2026, 11, 15), "'''d'd", "'d15");
        prints(onDay(2026, 11, 15), "'d'''d", "d'15");
        fault("'" + "d".repeat(20) + "'", GOOD);
        fault("'" + "d".repeat(21) + "'", 21);
        fault("''".repeat(20), GOOD);
        fault("''".repeat(21), 40);
        check.sentence("[ begins a SECTION, which is a piece too, and ] ends the one that began last; what is "
            + "between are its pieces (they count too). Sections may lie in one another;");
        fault("[" + "-".repeat(19) + "]", GOOD);
        fault("[" + "-".repeat(20) + "]", 20);
        fault("[".repeat(20) + "]".repeat(20), GOOD);
        prints(at(LocalDate.of(2026, 11, 15), 0, 0, 0, 1), "[u[H]-][M]", "2026-11");
        check.sentence("any other character is a piece that stands for itself.");
        String others = " !\"#$%&()*+,-./0123456789:;<=>?@\\^_`{|}~";
        for (int from = 0; from < others.length(); from += 20) {
            String some = others.substring(from, Math.min(from + 20, others.length()));
            prints(new SkeletonClock(), some, some);
        }
    }

    private static void faults() {
        check.sentence("The FAULT of a text that is no pattern is the first place where: a run begins that is not "
            + "allowed; a ] stands without a section; the twenty-first piece begins; or a quote begins that does not "
            + "end.");
        fault("u-MMMMM-q", 2);
        fault("[u]-]q", 4);
        fault("-".repeat(20) + "M]q", 20);
        fault("u-'d''-q", 2);
        fault("]'", 0);
        fault("']q", 0);
        fault("q]", 0);
        fault("-".repeat(20) + "]", 20);
        fault("-".repeat(19) + "'dd", 19);
        fault("-".repeat(20) + "'d'", 21);
        fault("'''", 2);
        check.sentence("When there is none of these but a section does not end, it is the length of the text. The "
            + "text without characters is a pattern.");
        fault("[u-[M]", 6);
        fault("[u-[M]q", 6);
        fault("[u-[M]-'", 7);
        fault("", GOOD);
        prints(new SkeletonClock(), "", "");
    }

    private static void printedNumbers() {
        check.sentence("PRINTING a moment by a pattern puts down its pieces one after the other:");
        prints(at(LocalDate.of(2026, 11, 15), 3723, 5, 0, 7), "dM/H:msS", "1511/1:230");
        check.sentence("NUMBERS (M with 1 or 2, d, D, w, H, h, m, s): in digits, with zeros before them until there "
            + "are as many as the count.");
        SkeletonClock early = at(LocalDate.of(2026, 2, 3), 3600 + 60 + 1, 0, 0, 7);
        prints(early, "M d D w H h m s", "2 3 34 6 1 1 1 1");
        prints(early, "MM dd DDD ww HH hh mm ss", "02 03 034 06 01 01 01 01");
        SkeletonClock late = at(LocalDate.of(2026, 12, 31), 86399, 0, 0, 7);
        prints(late, "M d D w H h m s", "12 31 365 53 23 11 59 59");
        prints(late, "MM dd DDD ww HH hh mm ss", "12 31 365 53 23 11 59 59");
        check.sentence("u, Y with 1: the number with - if it is below 0; with 2: its last two digits, that is the "
            + "remainder 0 .. 99 by 100, as two digits; with 4: at least four digits, zeros before them, with - if "
            + "it is below 0 and + if it is above 9999.");
        String[] years = {"0 00 0000", "-1 99 -0001", "7 07 0007", "-100 00 -0100", "9999 99 9999", "10000 00 +10000",
            "-9999 01 -9999", "-10000 00 -10000", "999999999 99 +999999999", "-999999999 01 -999999999"};
        for (String want : years) {
            int year = Integer.parseInt(want.substring(0, want.indexOf(' ')));
            prints(onDay(year, 6, 1), "u uu uuuu", want);
            prints(onDay(year, 6, 1), "Y YY YYYY", want);
        }
    }

    private static void printedNames() {
        check.sentence("NAMES: M with 4: January, February, March, April, May, June, July, August, September, "
            + "October, November, December; E with 4: Monday, Tuesday, Wednesday, Thursday, Friday, Saturday, "
            + "Sunday; M and E with 3: the first three letters of these; a: AM or PM.");
        String[] months = {"January", "February", "March", "April", "May", "June", "July", "August", "September", "October",
            "November", "December"};
        for (int month = 1; month <= 12; month++) {
            prints(onDay(2026, month, 1), "MMMM MMM", months[month - 1] + " " + months[month - 1].substring(0, 3));
        }
        String[] days = {"Monday", "Tuesday", "Wednesday", "Thursday", "Friday", "Saturday", "Sunday"};
        for (int day = 0; day < 7; day++) {
            prints(onDay(2026, 11, 9 + day), "EEEE EEE", days[day] + " " + days[day].substring(0, 3));
        }
        prints(inSecond(43199), "a", "AM");
        prints(inSecond(43200), "a", "PM");
    }

    private static void printedRest() {
        check.sentence("S: the first so many of the nine digits of the billionths (zeros before them to make nine).");
        SkeletonClock clock = at(LocalDate.of(1970, 1, 1), 0, 12345678, 0, 7);
        for (int count = 1; count <= 9; count++) {
            prints(clock, "S".repeat(count), "012345678".substring(0, count));
        }
        check.sentence("X, x: + or - (+ for 0), two digits of hours, and two digits of minutes, with : between when "
            + "the count is 3; with count 1 the minutes are left out when they are 0; but X prints Z for 0.");
        prints(withOffset(0), "X XX XXX x xx xxx", "Z Z Z +00 +0000 +00:00");
        prints(withOffset(1), "X XX XXX x xx xxx", "+0001 +0001 +00:01 +0001 +0001 +00:01");
        prints(withOffset(-1), "X XX XXX x xx xxx", "-0001 -0001 -00:01 -0001 -0001 -00:01");
        prints(withOffset(60), "X XX XXX x xx xxx", "+01 +0100 +01:00 +01 +0100 +01:00");
        prints(withOffset(-630), "X XX XXX x xx xxx", "-1030 -1030 -10:30 -1030 -1030 -10:30");
        check.sentence("A section: its pieces; but nothing at all when one of them needs a field that is not there. "
            + "(A section inside it that prints nothing for that reason does not count as such.)");
        SkeletonClock dated = at(LocalDate.of(2026, 11, 15), 0, 0, 0, 1);
        prints(dated, "[d.M.]u", "15.11.2026");
        prints(dated, "[d. H]u", "2026");
        prints(dated, "[d.[ H]M.]u", "15.11.2026");
        prints(dated, "[d.[M.]H]u", "2026");
        prints(dated, "[[[H]d][X]]", "15");
        prints(dated, "[]", "");
    }

    public static void main(String[] args) {
        whatItIs();
        dates();
        timesAndOffsets();
        momentsAndSeconds();
        texts();
        patterns();
        faults();
        printedNumbers();
        printedNames();
        printedRest();
        check.finish();
    }
}
