import java.time.LocalDate;

/** Promise 11: each boundary case that the document names for read and for reading a text by a pattern. */
public final class EdgesOfReadTest {
    private static final Check check = new Check();

    private static void reads(String pattern, String text, String want) {
        check.due("read " + text + " by " + pattern, Check.reading(pattern, text, 2, false), want);
    }

    private static void loosely(String pattern, String text, String want) {
        check.due("read loosely " + text + " by " + pattern, Check.reading(pattern, text, 2, true), want);
    }

    private static void fails(String pattern, String text, int place) {
        reads(pattern, text, "fails at " + place);
    }

    private static void time(String pattern, String text, int second) {
        reads(pattern, text, "2 " + second + " 0 0");
    }

    private static void date(String pattern, String text, LocalDate date) {
        reads(pattern, text, "1 " + date.toEpochDay() * 86400L + " 0 0");
    }

    private static void year(String pattern, String text, int year) {
        date(pattern, text, LocalDate.of(year, 1, 1));
    }

    private static void offset(String pattern, String text, int minutes) {
        reads(pattern, text, "4 " + -60L * minutes + " 0 " + minutes);
    }

    private static void refusals() {
        check.sentence("REFUSED, the text staying, when slot is not 0 .. 5 or has no pattern, or style is not 0 .. 2");
        int[] far = {Integer.MIN_VALUE, -1, 6, Integer.MAX_VALUE};
        for (boolean loose : new boolean[] {false, true}) {
            SkeletonClock clock = new SkeletonClock();
            Check.define(clock, 0, "H");
            Check.define(clock, 5, "H");
            Check.type(clock, "5");
            for (int slot : far) {
                check.due("read(" + slot + ", 0)", clock.read(slot, 0, loose), SkeletonClock.REFUSED);
            }
            for (int slot = 1; slot <= 4; slot++) {
                check.due("read(" + slot + ", 0)", clock.read(slot, 0, loose), SkeletonClock.REFUSED);
            }
            for (int style : new int[] {Integer.MIN_VALUE, -1, 3, Integer.MAX_VALUE}) {
                check.due("read(0, " + style + ")", clock.read(0, style, loose), SkeletonClock.REFUSED);
                check.due("read(6, " + style + ")", clock.read(6, style, loose), SkeletonClock.REFUSED);
            }
            check.due("what was read", Check.latest(clock), "0 0 0 0");
            check.due("read(5, 2) of the text that stayed", clock.read(5, 2, loose), SkeletonClock.NONE);
            check.due("what was read", Check.latest(clock), "2 18000 0 0");
            for (int style = 0; style <= 2; style++) {
                Check.type(clock, "6");
                check.due("read(0, " + style + ")", clock.read(0, style, loose), SkeletonClock.NONE);
            }
        }
    }

    private static void theTextGoes() {
        check.sentence("The text is empty then, in any case.");
        SkeletonClock clock = new SkeletonClock();
        Check.define(clock, 0, "H");
        for (String text : new String[] {"5", "24", "q", "555", "", "5".repeat(60)}) {
            Check.type(clock, text);
            clock.read(0, 0, false);
            check.due("characters of the text after " + text, Check.textLength(clock), 0);
        }
    }

    private static void failingPlaces() {
        check.sentence("The reading fails at the place where the first piece outside of sections that failed began, or, "
            + "if none did, at the place behind the last piece if that is not the end of the text.");
        fails("H", "", 0);
        fails("", "5", 0);
        fails("-H", "-", 1);
        fails("H-m", "5-", 2);
        fails("H-m", "5", 1);
        fails("H", "5-", 1);
        fails("H-", "5-6", 2);
        fails("H:mm", "5:6", 2);
        fails("HH-'q'", "05-", 3);
        String sixty = "MMMMEEEEMMMMEEEEMMMMEEEEdduuMM";
        String text = "SeptemberWednesday".repeat(3) + "042409";
        date(sixty, text, LocalDate.of(2024, 9, 4));
        fails(sixty + "H", text, 60);
        fails(sixty.substring(0, sixty.length() - 2), text, 58);
        fails("'" + "a".repeat(20) + "'", "a".repeat(19), 19);
        fails("'" + "a".repeat(20) + "'", "a".repeat(21), 20);
        fails("'" + "a".repeat(20) + "'", "a".repeat(19) + "b", 19);
    }

    private static void charactersAndNames() {
        check.sentence("A character must stand there. A NAME must stand there.");
        fails("'ab'H", "a5", 1);
        fails("'ab'H", "b5", 0);
        time("'ab'H", "ab5", 18000);
        time("''H", "'5", 18000);
        fails("a", "A", 0);
        fails("a", "", 0);
        fails("a", "MA", 0);
        fails("a", "AMM", 2);
        fails("EEE", "Mo", 0);
        fails("EEEE", "Monda", 0);
        fails("EEE", "Monday", 3);
        fails("MMMM", "Septembe", 0);
        fails("MMMM", "Sep", 0);
        fails("MMM", "September", 3);
        reads("MMMM", "May", "clash");
        reads("MMM", "May", "clash");
        fails("MMMM", "Mayor", 3);
        check.sentence("With LOOSE reading small and capital letters are alike in both, and for Z.");
        for (char c = 32; c <= 126; c++) {
            for (char d = 32; d <= 126; d++) {
                boolean alike = Character.toLowerCase(c) == Character.toLowerCase(d);
                if (c != '\'' && (c - d) % 32 == 0) {
                    reads("'" + c + "'H", d + "5", c == d ? "2 18000 0 0" : "fails at 0");
                    loosely("'" + c + "'H", d + "5", alike ? "2 18000 0 0" : "fails at 0");
                }
            }
        }
        reads("h a", "3 Pm", "fails at 2");
        loosely("h a", "3 Pm", "2 54000 0 0");
        reads("X", "z", "fails at 0");
        loosely("X", "z", "4 0 0 0");
        loosely("x", "z", "fails at 0");
        loosely("x", "Z", "fails at 0");
        loosely("u MMMM d", "1970 jANUARY 1", "1 0 0 0");
        loosely("u MMM d", "1970 JAN 1", "1 0 0 0");
        loosely("u D EEEE", "1970 1 tHURSDAY", "1 0 0 0");
    }

    private static void twoDigits(String pattern, String text, String letter, int seconds) {
        int begin = text.length();
        fails(pattern + letter, text, begin);
        fails(pattern + letter, text + "-5", begin);
        fails(pattern + letter, text + "+5", begin);
        fails(pattern + letter, text + " 5", begin);
        check.due("one digit of " + letter, Check.reading(pattern + letter, text + "1", 2, false).startsWith("fails"), false);
        check.due("two digits of " + letter, Check.reading(pattern + letter, text + "01", 2, false),
            Check.reading(pattern + letter, text + "1", 2, false));
        check.due("the value of " + letter, unit(pattern + letter, text + "12") - unit(pattern + letter, text + "1"),
            11L * seconds);
        check.due("the largest of " + letter, unit(pattern + letter, text + "10") - unit(pattern + letter, text + "09"),
            seconds);
        fails(pattern + letter, text + "001", begin + 2);
        fails(pattern + letter, text + "123", begin + 2);
        String two = letter.repeat(2);
        fails(pattern + two, text + "1", begin);
        fails(pattern + two, text, begin);
        fails(pattern + two, text + "1-", begin);
        fails(pattern + two, text + "-1", begin);
        check.due("two digits of " + two, Check.reading(pattern + two, text + "01", 2, false),
            Check.reading(pattern + letter, text + "1", 2, false));
        fails(pattern + two, text + "001", begin + 2);
    }

    /** The seconds of what is read leniently. */
    private static long unit(String pattern, String text) {
        String[] words = Check.reading(pattern, text, 2, false).split(" ");
        return words.length == 4 ? Long.parseLong(words[1]) : Long.MIN_VALUE;
    }

    private static void freeNumbers() {
        check.sentence("1 to 2 for M, d, w, H, h, m, s");
        twoDigits("u M ", "1970 1 ", "d", 86400);
        twoDigits("Y EEE ", "1970 Mon ", "w", 604800);
        twoDigits("", "", "H", 3600);
        twoDigits("", "", "m", 60);
        twoDigits("", "", "s", 1);
        String[] hours = {"1", "01", "11", "0", "00"};
        int[] values = {1, 1, 11, 0, 0};
        for (int k = 0; k < hours.length; k++) {
            time("a h", "AM " + hours[k], 3600 * values[k]);
        }
        fails("a h", "AM ", 3);
        fails("a h", "AM 011", 5);
        fails("a hh", "AM 1", 3);
        fails("a hh", "AM 011", 5);
        date("u d M", "1970 1 2", LocalDate.of(1970, 2, 1));
        date("u d M", "1970 1 02", LocalDate.of(1970, 2, 1));
        date("u d M", "1970 1 12", LocalDate.of(1970, 12, 1));
        fails("u d M", "1970 1 ", 7);
        fails("u d M", "1970 1 012", 9);
        fails("u d MM", "1970 1 1", 7);
        fails("u d MM", "1970 1 012", 9);
        check.sentence("1 to 3 for D");
        fails("u D", "1970 ", 5);
        fails("u D", "1970 -1", 5);
        date("u D", "1970 9", LocalDate.of(1970, 1, 9));
        date("u D", "1970 09", LocalDate.of(1970, 1, 9));
        date("u D", "1970 009", LocalDate.of(1970, 1, 9));
        date("u D", "1970 365", LocalDate.of(1970, 12, 31));
        fails("u D", "1970 0009", 8);
        fails("u DDD", "1970 09", 5);
        date("u DDD", "1970 009", LocalDate.of(1970, 1, 9));
        fails("u DDD", "1970 0009", 8);
    }

    private static void fixedNumbers() {
        check.sentence("that many digits must stand there, and it ends behind them, also when more digits follow");
        time("HHmm", "0102", 3720);
        fails("HHmm", "01023", 4);
        fails("HHmm", "010", 2);
        time("HH'0'mm", "01002", 3720);
        // The characters directly below 0 and above 9.
        for (String text : new String[] {"/1", "1/", ":1", "1:", "//", "::"}) {
            fails("HH", text, 0);
            fails("S.SS", "1." + text, 2);
            fails("XX", "+" + text + "00", 0);
            fails("XX", "+00" + text, 0);
            fails("uuuu", "19" + text, 0);
        }
        fails("H", "/", 0);
        fails("H", ":", 0);
        fails("H", "1/", 1);
        fails("H", "1:", 1);
        time("H", "09", 32400);
        time("HH", "09", 32400);
        for (int count = 1; count <= 9; count++) {
            String letters = "S".repeat(count);
            int unit = (int) Math.pow(10, 9 - count);
            reads(letters, "1".repeat(count), "2 0 " + Integer.parseInt("1".repeat(count)) * unit + " 0");
            reads(letters, "9".repeat(count), "2 0 " + Integer.parseInt("9".repeat(count)) * unit + " 0");
            reads(letters, "0".repeat(count), "2 0 0 0");
            fails(letters, "9".repeat(count - 1), 0);
            fails(letters, "9".repeat(count + 1), count);
        }
        check.sentence("u and Y with 2, which stand for 2000 .. 2099");
        year("uu D", "00 1", 2000);
        year("uu D", "99 1", 2099);
        fails("uu D", "9 1", 0);
        fails("uu D", "100 1", 2);
        fails("uu D", "-1 1", 0);
        fails("uu D", "+1 1", 0);
        date("YY w EEE", "00 1 Mon", LocalDate.of(2000, 1, 3));
        date("YY w EEE", "99 1 Mon", LocalDate.of(2098, 12, 29));
        fails("YY w EEE", "9 1 Mon", 0);
        fails("YY w EEE", "100 1 Mon", 2);
    }

    private static void yearsWithOne(String letter, String rest, String tail) {
        check.sentence("1 to 9 for u, Y with 1; Before the digits of u, Y with 1 may stand -");
        String p = letter + rest;
        fails(p, tail, 0);
        fails(p, "-" + tail, 0);
        fails(p, "+1" + tail, 0);
        fails(p, "--1" + tail, 0);
        fails(p, "- 1" + tail, 0);
        fails(p, "1234567890" + tail, 9);
        fails(p, "-1234567890" + tail, 10);
        fails(p, "0000000001" + tail, 9);
        for (String digits : new String[] {"1", "01", "000000001"}) {
            check.due(digits, Check.reading(p, digits + tail, 2, false), Check.reading(p, "1" + tail, 2, false));
            check.due("-" + digits, Check.reading(p, "-" + digits + tail, 2, false), Check.reading(p, "-1" + tail, 2, false));
        }
        check.sentence("It fails when - is followed by the value 0");
        for (int count = 1; count <= 9; count++) {
            fails(p, "-" + "0".repeat(count) + tail, 0);
            check.due("zeros", Check.reading(p, "0".repeat(count) + tail, 2, false), Check.reading(p, "0" + tail, 2, false));
        }
        fails(p, "-0000000000" + tail, 0);
    }

    private static void yearsWithFour(String letter, String rest, String tail) {
        check.sentence("4 to 9 with 4; with 4 - or +; with 4 also when it has four digits behind +, or more than four "
            + "without a sign");
        String p = letter.repeat(4) + rest;
        String one = Check.reading(letter + rest, "1" + tail, 2, false);
        String before = Check.reading(letter + rest, "-1" + tail, 2, false);
        for (int count = 0; count <= 11; count++) {
            String digits = "0".repeat(Math.max(0, count - 1)) + "1".repeat(Math.min(1, count));
            String text = digits + tail;
            check.due(text, Check.reading(p, text, 2, false), count == 4 ? one : "fails at 0");
            check.due("-" + text, Check.reading(p, "-" + text, 2, false),
                count < 4 || count > 9 ? "fails at 0" : before);
            check.due("+" + text, Check.reading(p, "+" + text, 2, false),
                count < 5 ? "fails at 0" : count > 9 ? "fails at 10" : one);
            fails(p, "-" + "0".repeat(count) + tail, 0);
        }
        fails(p, "-1000000001" + tail, 10);
        fails(p, "+1000000001" + tail, 10);
        fails(p, "1000000001" + tail, 0);
        fails(p, "++0001" + tail, 0);
        fails(p, "-+0001" + tail, 0);
        fails(p, " 0001" + tail, 0);
    }

    private static void yearValues() {
        check.sentence("then the digits stand behind the sign");
        year("u D", "999999999 1", 999999999);
        year("u D", "-999999999 1", -999999999);
        year("u D", "0 1", 0);
        year("u D", "-1 1", -1);
        year("uuuu D", "0000 1", 0);
        year("uuuu D", "9999 1", 9999);
        year("uuuu D", "-0001 1", -1);
        year("uuuu D", "-9999 1", -9999);
        year("uuuu D", "-10000 1", -10000);
        year("uuuu D", "-999999999 1", -999999999);
        year("uuuu D", "+10000 1", 10000);
        year("uuuu D", "+09999 1", 9999);
        year("uuuu D", "+00000 1", 0);
        year("uuuu D", "+999999999 1", 999999999);
        year("uuuuDDD", "1970001", 1970);
        fails("uuuuDDD", "+1970001", 0);
        year("uuuuDDD", "+01970001", 1970);
        year("uuuuDDD", "-1970001", -1970);
        fails("uuuuDDD", "01970001", 0);
        fails("uuuuDDD", "-0000001", 0);
        year("uDDD", "-1001", -1);
        fails("uDDD", "-0001", 0);
        fails("uDDD", "-001", 0);
        fails("uDDD", "001", 1);
    }

    /** Where a row of fixed pieces fails that has so many digits before it; NONE when none is missing or left. */
    private static int failure(int begin, int digits, String[] fixed) {
        int place = begin;
        for (String run : fixed) {
            if (begin + digits < place + run.length()) {
                return place;
            }
            place += run.length();
        }
        return place == begin + digits ? SkeletonClock.NONE : place;
    }

    /** A free piece with fixed ones behind it, before every number of digits. */
    private static void restOfDigits(String sign, String free, int min, int max, String behind) {
        String[] fixed = behind.isEmpty() ? new String[0] : behind.split(" ");
        String pattern = free + String.join("", fixed);
        int rest = pattern.length() - free.length();
        for (int n = 0; n <= max + rest + 2; n++) {
            String text = sign + "123456789012345678901234".substring(0, n);
            int width = Math.max(min, Math.min(n, max + rest) - rest);
            int place = n < min ? 0 : failure(sign.length() + width, n - width, fixed);
            String got = Check.reading(pattern, text, 2, false);
            if (place == SkeletonClock.NONE) {
                check.due("read " + text + " by " + pattern + " fails", got.startsWith("fails"), false);
            } else {
                fails(pattern, text, place);
            }
        }
    }

    private static void fixedBehindFree() {
        check.sentence("it fails when N is less than min, else it has N - R digits, or min when that is more");
        String[] fixed = {"", "S", "SS", "SSSSSSSSS", "mm", "ss", "mm ss", "mm ss SSS", "DDD", "uu", "YY", "MM", "dd", "ww",
            "HH", "hh", "uu MM dd", "uu DDD", "SSS mm ss"};
        for (String behind : fixed) {
            for (String free : new String[] {"M", "d", "w", "H", "h", "m", "s"}) {
                if (!behind.contains(free)) {
                    restOfDigits("", free, 1, 2, behind);
                }
            }
            if (!behind.contains("D")) {
                restOfDigits("", "D", 1, 3, behind);
            }
            for (String free : new String[] {"u", "Y"}) {
                if (!behind.contains(free)) {
                    restOfDigits("", free, 1, 9, behind);
                    restOfDigits("-", free, 1, 9, behind);
                    restOfDigits("-", free.repeat(4), 4, 9, behind);
                }
            }
        }
        time("Hmm", "123", 4980);
        time("Hmm", "1234", 45240);
        fails("Hmm", "12345", 4);
        fails("Hmm", "12", 1);
        fails("Hmm", "1", 1);
        fails("Hmm", "", 0);
        date("uuuuMMdd", "20240229", LocalDate.of(2024, 2, 29));
        fails("uuuuMMdd", "2024022", 6);
        fails("uuuuMMdd", "202402", 6);
        fails("uuuuMMdd", "2024", 4);
        fails("uuuuMMdd", "202", 0);
        fails("uuuuMMdd", "202402290", 0);
        date("uMMdd", "50229", LocalDate.of(5, 3, 1));
        check.sentence("fixed pieces that follow directly on a free one in the same section (or in none), one after the "
            + "other, up to the first piece that is not fixed");
        fails("H-mm", "12305", 2);
        fails("H[mm]ss", "12304", 4);
        time("H[mm]ss", "123004", 45004);
        fails("[H]mm", "123", 2);
        time("[Hmm]", "123", 4980);
        fails("[Hmm]ss", "12304", 4);
        fails("Hm", "12", 2);
        time("Hm", "123", 43380);
        time("Hmmss", "11213", 4333);
        fails("Hmm-ss", "123-4", 4);
        time("Hmm-ss", "123-04", 4984);
        time("Hms", "12345", 12 * 3600 + 34 * 60 + 5);
        fails("sSSSX", "1234", 4);
        reads("sSSSX", "1234Z", "6 1 234000000 0");
        fails("dMMMuu", "123Jan70", 2);
    }

    private static void offsets() {
        for (String x : new String[] {"X", "x"}) {
            String two = x + x;
            String three = two + x;
            check.sentence("with count 1 two digits when at least two digits stand there, else none");
            offset(x, "+01", 60);
            fails(x, "+013", 3);
            offset(x, "+0130", 90);
            fails(x, "+01300", 5);
            offset(x + "'3'", "+013", 60);
            offset(x + "':'", "+01:", 60);
            fails(x, "+1", 0);
            fails(x, "+", 0);
            fails(x, "01", 0);
            check.sentence("with 2 two digits, with 3 : and two digits. It fails when that is not there");
            offset(two, "+0130", 90);
            for (String text : new String[] {"+01", "+013", "+01:30", "0130", "+0a30", "+013a", "", "+"}) {
                fails(two, text, 0);
            }
            fails(two, "+01300", 5);
            offset(three, "+01:30", 90);
            for (String text : new String[] {"+01", "+01:", "+01:3", "+0130", "01:30", "+01-30", "+01:a0", "", "+"}) {
                fails(three, text, 0);
            }
            fails(three, "+01:300", 6);
            check.sentence("the minutes are more than 59");
            for (String sign : new String[] {"+", "-"}) {
                int one = sign.equals("+") ? 1 : -1;
                offset(x, sign + "0059", one * 59);
                fails(x, sign + "0060", 0);
                offset(two, sign + "1759", one * 1079);
                fails(two, sign + "1760", 0);
                offset(three, sign + "00:59", one * 59);
                fails(three, sign + "00:60", 0);
                fails(three, sign + "00:99", 0);
                check.sentence("or the offset is not -1080 .. 1080");
                offset(x, sign + "18", one * 1080);
                fails(x, sign + "19", 0);
                offset(x, sign + "1800", one * 1080);
                fails(x, sign + "1801", 0);
                offset(two, sign + "1800", one * 1080);
                fails(two, sign + "1801", 0);
                offset(three, sign + "18:00", one * 1080);
                fails(three, sign + "18:01", 0);
                fails(three, sign + "99:59", 0);
                offset(three, sign + "00:00", 0);
                offset(two, sign + "0000", 0);
                offset(x, sign + "00", 0);
            }
        }
        check.sentence("Z alone, for X only, is 0");
        for (int count = 1; count <= 3; count++) {
            offset("X".repeat(count), "Z", 0);
            fails("x".repeat(count), "Z", 0);
            fails("X".repeat(count), "Z00", 1);
            fails("X".repeat(count), "+Z", 0);
        }
    }

    private static void valuesKnownAlready() {
        check.sentence("it fails too when another value is known of it already");
        time("H H", "5 5", 18000);
        time("H HH", "5 05", 18000);
        fails("H H", "5 6", 2);
        fails("s ss", "0 01", 2);
        time("m mm", "0 00", 0);
        reads("u M MMM d", "1970 1 Jan 1", "1 0 0 0");
        fails("u M MMM d", "1970 1 Feb 1", 7);
        fails("a a", "AM PM", 3);
        fails("EEE EEEE", "Mon Tuesday", 4);
        reads("S SSS", "1 100", "2 0 100000000 0");
        fails("S SSS", "1 101", 2);
        fails("u uu", "1924 24", 5);
        year("u uu D", "2024 24 1", 2024);
        fails("u uuuu", "1 -0001", 2);
        fails("X x", "Z +01", 2);
        offset("X x", "Z -00", 0);
        offset("XX XXX", "-0130 -01:30", -90);
        fails("XX XXX", "-0130 +01:30", 6);
        time("H[ HH]", "5 05", 18000);
        fails("H[ HH]", "5 06", 1);
        time("[H ]HH", "5 05", 18000);
        fails("[H ]HH", "5 06", 2);
    }

    private static void sectionsGivenUp() {
        check.sentence("A section never fails: when one of its pieces fails, all that its pieces made known is not known "
            + "again (what was known before stays), and it ends where it began.");
        time("[H:]s", "5", 5);
        time("[H:]s", "5:6", 18006);
        time("[H:m:]s", "5", 5);
        fails("[H:m:]s", "5:6", 1);
        time("[H:m:][m:]s", "5:6", 306);
        time("H[-HH:m][-s]", "5-05", 18005);
        time("[[H]-]m", "5", 300);
        time("[[H][-]:]m", "5", 300);
        time("[[[H]:]-]m", "5", 300);
        fails("[[[H]:]-]m", "5:", 1);
        time("[H[:m][:s]-]m:s", "5:6", 306);
        time("H[:m[:s]]", "5:6:7", 18367);
        time("H[:m[:s]]", "5:6", 18360);
        fails("H[:m[:s]]", "5:6:", 3);
        fails("H[:m[:s]]", "5:", 1);
        // What stands behind the piece that failed is not tried, though it would fit.
        fails("[H:m]", "5", 0);
        fails("['q'm]", "5", 0);
        fails("['q'[m]]", "5", 0);
        fails("[[H:]m-s]", "5:6", 0);
        time("[H:m]s", "5", 5);
        time("[]H[]", "5", 18000);
        time("[H]", "5", 18000);
        fails("[H]", "q", 0);
        reads("[H]", "", "clash");
        fails("[H]-", "5", 1);
        fails("[H]-", "q", 0);
        time("[".repeat(19) + "H" + "]".repeat(19), "5", 18000);
        fails("[".repeat(19) + "H" + "]".repeat(19), "q", 0);
        reads("[u-D ][H][X]", "1970-1 ", "1 0 0 0");
        reads("[u-D ][H][X]", "1970-1 5Z", "7 18000 0 0");
        time("[u-D ]H", "19", 68400);
        fails("[u-D ]H", "1970-", 2);
    }

    public static void main(String[] args) {
        refusals();
        theTextGoes();
        failingPlaces();
        charactersAndNames();
        freeNumbers();
        fixedNumbers();
        yearsWithOne("u", " D", " 1");
        yearsWithOne("Y", " w EEE", " 1 Mon");
        yearsWithFour("u", " D", " 1");
        yearsWithFour("Y", " w EEE", " 1 Mon");
        yearValues();
        fixedBehindFree();
        offsets();
        valuesKnownAlready();
        sectionsGivenUp();
        check.finish();
    }
}
