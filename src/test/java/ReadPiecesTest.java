/** Promise 11: how the pieces of a pattern read a text. */
public final class ReadPiecesTest {
    private static final Check check = new Check();

    private static void reads(String pattern, String text, String want) {
        check.due("read " + text + " by " + pattern, Check.reading(pattern, text, 2, false), want);
    }

    private static void loosely(String pattern, String text, String want) {
        check.due("read loosely " + text + " by " + pattern, Check.reading(pattern, text, 2, true), want);
    }

    private static void fails(String pattern, String text, int place) {
        reads(pattern, text, "fails at " + place);
    }

    private static void time(String pattern, String text, int seconds) {
        reads(pattern, text, "2 " + seconds + " 0 0");
    }

    private static void characters() {
        time("-H", "-5", 18000);
        fails("-H", "+5", 0);
        fails("H-", "5", 1);
        fails("H-", "5--", 2);
        fails("H", "", 0);
        fails("", "1", 0);
        time("'qA'''H", "qA'5", 18000);
        fails("'qA'H", "Qa5", 0);
        loosely("'qA'H", "Qa5", "2 18000 0 0");
        loosely("'qA'H", "qa5", "2 18000 0 0");
        loosely("'[@`{'H", "[@`{5", "2 18000 0 0");
        loosely("'['H", "{5", "fails at 0");
        loosely("'@'H", "`5", "fails at 0");
        loosely("' 'H", "@5", "fails at 0");
        loosely("'Z'H", "z5", "2 18000 0 0");
        loosely("'A'H", "a5", "2 18000 0 0");
        fails("'a'H", "", 0);
    }

    private static void names() {
        String date = "u/MMMM/d";
        String[] months = {"January", "February", "March", "April", "May", "June", "July", "August", "September",
            "October", "November", "December"};
        int[] before = {0, 31, 59, 90, 120, 151, 181, 212, 243, 273, 304, 334};
        for (int k = 0; k < 12; k++) {
            String seconds = "1 " + before[k] * 86400L + " 0 0";
            String name = months[k];
            reads(date, "1970/" + name + "/1", seconds);
            reads("u/MMM/d", "1970/" + name.substring(0, 3) + "/1", seconds);
            fails(date, "1970/" + name.toUpperCase() + "/1", 5);
            fails(date, "1970/" + name.toLowerCase() + "/1", 5);
            loosely(date, "1970/" + name.toUpperCase() + "/1", seconds);
            loosely("u/MMM/d", "1970/" + name.toLowerCase().substring(0, 3) + "/1", seconds);
            fails(date, "1970/" + name.substring(0, name.length() - 1) + "/1", 5);
        }
        fails("u/MMM/d", "1970/June/1", 8);
        fails("u/MMMM/d", "1970/Jun/1", 5);
        fails("u/MMMM/d", "1970/06/1", 5);
        fails("MMMM", "Decembe", 0);
        fails("MMMM", "", 0);
        String[] days = {"Thursday", "Friday", "Saturday", "Sunday", "Monday", "Tuesday", "Wednesday"};
        for (int k = 0; k < 7; k++) {
            reads("u D EEEE", "1970 " + (k + 1) + " " + days[k], "1 " + k * 86400 + " 0 0");
            reads("u D EEE", "1970 " + (k + 1) + " " + days[k].substring(0, 3), "1 " + k * 86400 + " 0 0");
            loosely("u D EEE", "1970 " + (k + 1) + " " + days[k].substring(0, 3).toUpperCase(),
                "1 " + k * 86400 + " 0 0");
        }
        fails("EEEE", "monday", 0);
        fails("EEE", "Mo", 0);
        time("h a", "3 AM", 10800);
        time("h a", "3 PM", 54000);
        fails("h a", "3 pm", 2);
        fails("h a", "3 P", 2);
        loosely("h a", "3 pM", "2 54000 0 0");
        loosely("h a", "3 Am", "2 10800 0 0");
    }

    private static void fixedNumbers() {
        time("HHmmss", "010203", 3723);
        fails("HHmmss", "0102033", 6);
        fails("HHmmss", "01020", 4);
        fails("HHmmss", "1:0203", 0);
        fails("HH", " 1", 0);
        fails("HH", "-1", 0);
        fails("HH", "+1", 0);
        reads("uu-MM-dd", "00-01-01", "1 946684800 0 0");
        reads("uu-MM-dd", "70-01-01", "1 3155760000 0 0");
        reads("uu-MM-dd", "99-01-01", "1 4070908800 0 0");
        fails("uu-MM-dd", "-0-01-01", 0);
        fails("uu-MM-dd", "+70-01-01", 0);
        reads("YY ww EEE", "20 53 Sun", "1 1609632000 0 0");
        reads("u DDD", "1970 002", "1 86400 0 0");
        fails("u DDD", "1970 02", 5);
        fails("u DDD", "1970 0022", 8);
        reads("u DDDHH", "1970 00212", "3 129600 0 0");
    }

    private static void billionths() {
        reads("S", "1", "2 0 100000000 0");
        reads("SS", "12", "2 0 120000000 0");
        reads("SSS", "012", "2 0 12000000 0");
        reads("SSSSSSSSS", "123456789", "2 0 123456789 0");
        reads("SSSSSSSSS", "000000001", "2 0 1 0");
        reads("SSSSSSSS", "99999999", "2 0 999999990 0");
        fails("SSS", "12", 0);
        fails("SSS", "1234", 3);
        reads("S-SS", "1-10", "2 0 100000000 0");
        fails("S-SS", "1-12", 2);
        reads("ssSSS", "01250", "2 1 250000000 0");
        reads("sSSS", "1250", "2 1 250000000 0");
        reads("sSSS", "01250", "2 1 250000000 0");
    }

    private static void freeNumbers() {
        time("H:m:s", "1:2:3", 3723);
        time("H:m:s", "01:02:03", 3723);
        fails("H:m:s", "001:02:03", 2);
        fails("H:m:s", ":02:03", 0);
        fails("H:m:s", "1:2:", 4);
        reads("u D", "1970 2", "1 86400 0 0");
        reads("u D", "1970 002", "1 86400 0 0");
        fails("u D", "1970 0002", 8);
        reads("Y w EEE", "1970 1 Thu", "1 0 0 0");
        time("h a m", "3 AM 9", 11340);
        fails("H", "-1", 0);
        fails("u D", "1970 -1", 5);
        time("Hmm", "123", 4980);
        time("Hmm", "1234", 45240);
        fails("Hmm", "12345", 4);
        fails("Hmm", "12", 1);
        fails("Hmm", "1", 1);
        time("Hmmss", "10203", 3723);
        time("Hmmss", "010203", 3723);
        fails("Hm", "12", 2);
        time("Hm", "123", 43380);
        time("Hm-", "123-", 43380);
        time("H[]mm", "1234", 45240);
        fails("H[]mm", "123", 2);
        time("[H]mm", "1234", 45240);
        fails("[H]mm", "123", 2);
        time("[Hmm]", "123", 4980);
        fails("[Hmm]ss", "12304", 4);
        time("[Hmm]ss", "123004", 45004);
        reads("dMMuu", "10170", "1 " + java.time.LocalDate.of(2070, 1, 1).toEpochDay() * 86400L + " 0 0");
        fails("dMMuuuu", "1011970", 4);
        reads("dMMuuuu", "01011970", "1 0 0 0");
        fails("dMMMuuuu", "1Jan197", 4);
        reads("DuuHH", "17000", "3 3155760000 0 0");
    }

    private static void years() {
        reads("u D", "999999999 1", "1 " + year(999999999) + " 0 0");
        reads("u D", "-999999999 1", "1 " + year(-999999999) + " 0 0");
        fails("u D", "1000000000 1", 9);
        reads("u D", "000000001 1", "1 " + year(1) + " 0 0");
        reads("u D", "-7 1", "1 " + year(-7) + " 0 0");
        reads("u D", "0 1", "1 " + year(0) + " 0 0");
        fails("u D", "-0 1", 0);
        fails("u D", "-000 1", 0);
        fails("u D", "+7 1", 0);
        fails("u D", "- 1", 0);
        fails("u D", "--7 1", 0);
        reads("uuuu D", "0000 1", "1 " + year(0) + " 0 0");
        reads("uuuu D", "1970 1", "1 0 0 0");
        fails("uuuu D", "970 1", 0);
        fails("uuuu D", "-970 1", 0);
        fails("uuuu D", "-0000 1", 0);
        fails("uuuu D", "-00000 1", 0);
        reads("uuuu D", "-0970 1", "1 " + year(-970) + " 0 0");
        reads("uuuu D", "-12345 1", "1 " + year(-12345) + " 0 0");
        reads("uuuu D", "-00012 1", "1 " + year(-12) + " 0 0");
        fails("uuuu D", "+1970 1", 0);
        reads("uuuu D", "+12345 1", "1 " + year(12345) + " 0 0");
        reads("uuuu D", "+00000 1", "1 " + year(0) + " 0 0");
        fails("uuuu D", "12345 1", 0);
        reads("uuuu D", "+999999999 1", "1 " + year(999999999) + " 0 0");
        fails("uuuu D", "+9999999990 1", 10);
        fails("uuuu D", "9999999990 1", 0);
        fails("uuuu D", "+ 1", 0);
        fails("uuuu D", "+-12345 1", 0);
        reads("uuuuDDD", "1970001", "1 0 0 0");
        fails("uuuuDDD", "11970001", 0);
        reads("uuuuDDD", "+11970001", "1 " + year(11970) + " 0 0");
        reads("uuuuDDD", "+999999999001", "1 " + year(999999999) + " 0 0");
        fails("uuuuDDD", "+9999999990010", 13);
        fails("uuuuDDD", "19701", 4);
        reads("uDDD", "1001", "1 " + year(1) + " 0 0");
        reads("uDDD", "-1001", "1 " + year(-1) + " 0 0");
        fails("uDDD", "-0001", 0);
        reads("YYYY'W'wwEEE", "-0001W01Mon", "1 -62198496000 0 0");
        reads("YwwEEE", "197001Thu", "1 0 0 0");
        fails("YYYYwwEEE", "+197001Thu", 0);
    }

    private static String year(int year) {
        return String.valueOf(java.time.LocalDate.of(year, 1, 1).toEpochDay() * 86400L);
    }

    private static void offset(String pattern, String text, int minutes) {
        reads(pattern, text, "4 " + -60L * minutes + " 0 " + minutes);
    }

    private static void offsets() {
        for (String one : new String[] {"X", "XX", "XXX"}) {
            offset(one, "Z", 0);
            fails(one, "z", 0);
            loosely(one, "z", "4 0 0 0");
            loosely(one, "Z", "4 0 0 0");
            fails(one, "ZZ", 1);
            fails(one, "", 0);
            fails(one, "+", 0);
            fails(one, "+1", 0);
            fails(one, "+1:00", 0);
            fails(one, "01:00", 0);
            fails(one.toLowerCase(), "Z", 0);
            check.due("loose Z for x", Check.reading(one.toLowerCase(), "z", 2, true), "fails at 0");
        }
        for (String x : new String[] {"X", "x"}) {
            offset(x, "+05", 300);
            offset(x, "-05", -300);
            offset(x, "+0530", 330);
            offset(x, "-0530", -330);
            offset(x, "+0559", 359);
            offset(x, "+00", 0);
            offset(x, "-00", 0);
            offset(x + "'3'", "+053", 300);
            fails(x, "+053", 3);
            fails(x, "+05301", 5);
            fails(x, "+0560", 0);
            fails(x, "+19", 0);
            offset(x, "+18", 1080);
            offset(x, "-1800", -1080);
            fails(x, "+1801", 0);
            fails(x, "-1801", 0);
            fails(x, "+05:30", 3);
            offset(x + x, "+0530", 330);
            fails(x + x, "+05", 0);
            fails(x + x, "+053", 0);
            fails(x + x, "+05:30", 0);
            fails(x + x, "+0560", 0);
            offset(x + x + x, "+05:30", 330);
            offset(x + x + x, "-00:01", -1);
            offset(x + x + x, "-00:00", 0);
            fails(x + x + x, "+0530", 0);
            fails(x + x + x, "+05", 0);
            fails(x + x + x, "+05:", 0);
            fails(x + x + x, "+05:3", 0);
            fails(x + x + x, "+05:60", 0);
            fails(x + x + x, "+18:01", 0);
            offset(x + x + x, "+18:00", 1080);
            fails(x + x + x, "+99:00", 0);
        }
        offset("X-xxx", "Z-+00:00", 0);
        offset("X-xxx", "+01-+01:00", 60);
        fails("X-xxx", "Z-+01:00", 2);
        reads("HXX", "5+0100", "6 14400 0 60");
    }

    private static void knownTwice() {
        time("H-HH", "5-05", 18000);
        fails("H-HH", "5-06", 2);
        reads("u uu D uuuu", "2024 24 1 2024", "1 " + year(2024) + " 0 0");
        fails("u uu D", "1924 24 1", 5);
        reads("u M MMM d", "1970 1 Jan 1", "1 0 0 0");
        fails("u M MMM d", "1970 1 Feb 1", 7);
        fails("a-a", "AM-PM", 3);
        fails("EEE-EEEE", "Mon-Tuesday", 4);
        time("H[-HH]", "5-05", 18000);
        fails("H[-HH]", "5-06", 1);
    }

    private static void sections() {
        time("H[:m]", "5", 18000);
        time("H[:m]", "5:6", 18360);
        fails("H[:m]", "5:", 1);
        fails("H[:m]", "5:x", 1);
        time("H[:m[:s]]", "5:6", 18360);
        time("H[:m[:s]]", "5:6:7", 18367);
        fails("H[:m[:s]]", "5:6:", 3);
        fails("H[:m[:s]-]", "5:6:7", 1);
        time("[H:m][H]", "5", 18000);
        time("[H:m-][H:]s", "5:6", 18006);
        time("[H[:m]-][H:]s", "5:6", 18006);
        time("[[H:][m-]s+][s][:m]", "5:6", 365);
        time("H[-HH:m][-s]", "5-05", 18005);
        time("H[-HH:m][-s]", "5-05:7", 18420);
        time("[H-][m-]s", "5-6-7", 18367);
        time("[H-][m-]s", "5-7", 18007);
        time("[H-][m-]s", "7", 7);
        reads("[]", "", "clash");
        fails("[]", "1", 0);
        reads("[H]", "", "clash");
        time("[[[H]]]", "5", 18000);
        time("[H-]['q']m", "q5", 300);
        time("[H'x'][m'y'][s'z']", "5z", 5);
        fails("[H'x'][m'y'][s'z']-", "5z", 2);
        fails("[H'x']m'y'", "5z", 1);
        reads("[u-D ]H", "1970-1 5", "3 18000 0 0");
        time("[u-D ]H", "5", 18000);
        reads("[X]", "+0", "fails at 0");
    }

    public static void main(String[] args) {
        characters();
        names();
        fixedNumbers();
        billionths();
        freeNumbers();
        years();
        offsets();
        knownTwice();
        sections();
        check.finish();
    }
}
