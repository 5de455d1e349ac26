import java.time.LocalDate;
import java.time.temporal.IsoFields;
import java.util.ArrayList;
import java.util.HashMap;
import java.util.List;
import java.util.Map;
import java.util.regex.Matcher;
import java.util.regex.Pattern;

/**
 * The document once more, written in another way: with the library's calendar, regular expressions,
 * recursion over a tree of pieces, and maps that are copied. The tests hold the class against it.
 */
final class Model {
    private record Piece(char letter, int count, List<Piece> inside) {
        static final char CHARACTER = '=';
        static final char SECTION = '[';

        boolean fixed() {
            return letter == 'S' || letter == 'D' && count == 3 || "uYMdwHhms".indexOf(letter) >= 0 && count == 2;
        }
    }

    private static final class Fail extends Exception {
        private static final long serialVersionUID = 1L;
    }

    private record Moment(long day, long second, int nano, int offset, int parts) {
        long seconds() {
            return day * 86400L + second - 60L * offset;
        }
    }

    private static final String[] MONTHS = {"January", "February", "March", "April", "May", "June", "July", "August",
        "September", "October", "November", "December"};
    private static final String[] DAYS = {"Monday", "Tuesday", "Wednesday", "Thursday", "Friday", "Saturday", "Sunday"};
    private static final String[] HALVES = {"AM", "PM"};
    private static final Pattern TOKEN =
        Pattern.compile("''|'(?:''|[^'])*+'|([a-zA-Z])\\1*|.");
    private static final String ALLOWED = "u1 u2 u4 Y1 Y2 Y4 M1 M2 M3 M4 d1 d2 w1 w2 H1 H2 h1 h2 m1 m2 s1 s2 D1 D3 E3 E4 "
        + "a1 S1 S2 S3 S4 S5 S6 S7 S8 S9 X1 X2 X3 x1 x2 x3 ";

    private String text = "";
    private String page = "";
    private final List<List<Piece>> slots = new ArrayList<>();
    private Moment now = new Moment(0, 0, 0, 0, 7);
    private Moment read = null;
    private int distance = -1;

    Model() {
        for (int slot = 0; slot < 6; slot++) {
            slots.add(null);
        }
    }

    boolean type(char c) {
        boolean good = c >= 32 && c <= 126 && text.length() < 60;
        text += good ? String.valueOf(c) : "";
        return good;
    }

    // Patterns.

    private record Parsed(List<Piece> pieces, int fault) { }

    private static Parsed parse(String text) {
        List<Integer> faults = new ArrayList<>();
        List<Integer> begins = new ArrayList<>();
        List<List<Piece>> open = new ArrayList<>();
        open.add(new ArrayList<>());
        Matcher token = TOKEN.matcher(text);
        while (token.find()) {
            String found = token.group();
            char first = found.charAt(0);
            List<Piece> inner = open.get(open.size() - 1);
            if (found.equals("''")) {
                begins.add(token.start());
                inner.add(new Piece(Piece.CHARACTER, '\'', null));
            } else if (first == '\'' && found.length() == 1) {
                faults.add(token.start());
            } else if (first == '\'') {
                Matcher letter = Pattern.compile("''|.").matcher(found.substring(1, found.length() - 1));
                while (letter.find()) {
                    begins.add(token.start() + 1 + letter.start());
                    inner.add(new Piece(Piece.CHARACTER, letter.group().charAt(0), null));
                }
            } else if (Character.isLetter(first)) {
                begins.add(token.start());
                inner.add(new Piece(first, found.length(), null));
                if (!ALLOWED.contains("" + first + found.length() + " ")) {
                    faults.add(token.start());
                }
            } else if (first == '[') {
                begins.add(token.start());
                List<Piece> inside = new ArrayList<>();
                inner.add(new Piece(Piece.SECTION, 0, inside));
                open.add(inside);
            } else if (first == ']' && open.size() == 1) {
                faults.add(token.start());
            } else if (first == ']') {
                open.remove(open.size() - 1);
            } else {
                begins.add(token.start());
                inner.add(new Piece(Piece.CHARACTER, first, null));
            }
        }
        if (begins.size() > 20) {
            faults.add(begins.get(20));
        }
        if (faults.isEmpty() && open.size() > 1) {
            faults.add(text.length());
        }
        return new Parsed(open.get(0), faults.stream().min(Integer::compare).orElse(-1));
    }

    int define(int slot) {
        if (slot < 0 || slot > 5) {
            return -2;
        }
        Parsed parsed = parse(text);
        text = "";
        if (parsed.fault() == -1) {
            slots.set(slot, parsed.pieces());
        }
        return parsed.fault();
    }

    // Wishes.

    private static void counts(List<Piece> pieces, Map<Character, Integer> into) {
        for (Piece piece : pieces) {
            if (piece.inside() != null) {
                counts(piece.inside(), into);
            } else if (piece.letter() != Piece.CHARACTER) {
                into.putIfAbsent(piece.letter(), piece.count());
            }
        }
    }

    int match() {
        String wish = text;
        text = "";
        Map<Character, Integer> wished = new HashMap<>();
        Matcher run = Pattern.compile("(.)\\1*").matcher(wish);
        while (run.find()) {
            char letter = run.group().charAt(0);
            if (!ALLOWED.contains("" + letter + run.group().length() + " ") || wished.containsKey(letter)) {
                return -2;
            }
            wished.put(letter, run.group().length());
        }
        int best = -1;
        int least = Integer.MAX_VALUE;
        for (int slot = 0; slot < 6; slot++) {
            if (slots.get(slot) != null) {
                Map<Character, Integer> mine = new HashMap<>();
                counts(slots.get(slot), mine);
                int sum = 0;
                for (char c = 'A'; c <= 'z'; c++) {
                    Integer a = mine.get(c);
                    Integer b = wished.get(c);
                    if (a != null && b != null) {
                        sum += Math.abs(a - b) + (c == 'M' && Math.min(a, b) <= 2 && Math.max(a, b) > 2 ? 100 : 0);
                    } else if (a != null || b != null) {
                        sum += 1000;
                    }
                }
                if (sum < least) {
                    least = sum;
                    best = slot;
                }
            }
        }
        distance = best >= 0 ? least : distance;
        return best;
    }

    int distance() {
        return distance;
    }

    // Moments.

    /** The library's calendar ends at 999999999 years; cycles of 400 years go beyond. */
    private static long dayOf(long year, int month, long day) {
        long cycles = Math.floorDiv(year, 400L);
        return LocalDate.of((int) Math.floorMod(year, 400L), month, 1).toEpochDay() + cycles * 146097L + day - 1;
    }

    private static int valueOf(char letter, Moment moment) {
        long cycles = Math.floorDiv(moment.day(), 146097L);
        LocalDate date = LocalDate.ofEpochDay(Math.floorMod(moment.day(), 146097L));
        int hour = (int) (moment.second() / 3600);
        switch (letter) {
            case 'u': return (int) (date.getYear() + 400 * cycles);
            case 'Y': return (int) (date.get(IsoFields.WEEK_BASED_YEAR) + 400 * cycles);
            case 'M': return date.getMonthValue();
            case 'd': return date.getDayOfMonth();
            case 'D': return date.getDayOfYear();
            case 'E': return date.getDayOfWeek().getValue();
            case 'w': return date.get(IsoFields.WEEK_OF_WEEK_BASED_YEAR);
            case 'H': return hour;
            case 'h': return (hour + 11) % 12 + 1;
            case 'a': return hour < 12 ? 0 : 1;
            case 'm': return (int) (moment.second() / 60 % 60);
            case 's': return (int) (moment.second() % 60);
            case 'S': return moment.nano();
            case 'X': return moment.offset();
            default: return -1;
        }
    }

    private static boolean tooFar(Moment moment) {
        return moment.day() < dayOf(-999999999, 1, 1) || moment.day() > dayOf(999999999, 12, 31);
    }

    boolean moment(long seconds, int nano, int minutes, int parts) {
        java.math.BigInteger sum = java.math.BigInteger.valueOf(seconds)
            .add(java.math.BigInteger.valueOf(60L * minutes));
        if (sum.bitLength() > 62) {
            return false;
        }
        long local = sum.longValue();
        Moment next = new Moment(Math.floorDiv(local, 86400L), Math.floorMod(local, 86400L), nano, minutes, parts);
        boolean bad = nano < 0 || nano > 999999999 || Math.abs((long) minutes) > 1080 || parts < 1 || parts > 7;
        if (bad || tooFar(next)) {
            return false;
        }
        now = next;
        return true;
    }

    int field(char letter) {
        return valueOf(letter, now);
    }

    // Printing.

    private static int partOf(char letter) {
        return "uYMdDEw".indexOf(letter) >= 0 ? 1 : "Xx".indexOf(letter) >= 0 ? 4 : 2;
    }

    private static String written(List<Piece> pieces, Moment moment) throws Fail {
        StringBuilder all = new StringBuilder();
        for (Piece piece : pieces) {
            if (piece.inside() != null) {
                try {
                    all.append(written(piece.inside(), moment));
                } catch (Fail nothingAtAll) {
                    continue;
                }
            } else if (piece.letter() == Piece.CHARACTER) {
                all.append((char) piece.count());
            } else if ((moment.parts() & partOf(piece.letter())) == 0) {
                throw new Fail();
            } else {
                all.append(written(piece.letter(), piece.count(), moment));
            }
        }
        return all.toString();
    }

    private static String written(char letter, int count, Moment moment) {
        int value = valueOf(letter == 'x' ? 'X' : letter, moment);
        switch (letter) {
            case 'u', 'Y':
                if (count == 1) {
                    return String.valueOf(value);
                }
                if (count == 2) {
                    return String.format("%02d", (value % 100 + 100) % 100);
                }
                return (value < 0 ? "-" : value > 9999 ? "+" : "") + String.format("%04d", Math.abs(value));
            case 'S':
                return String.format("%09d", value).substring(0, count);
            case 'X', 'x':
                if (letter == 'X' && value == 0) {
                    return "Z";
                }
                String[] forms = {"", "%02d", "%02d%02d", "%02d:%02d"};
                int size = Math.abs(value);
                String form = count == 1 && size % 60 != 0 ? forms[2] : forms[count];
                return (value < 0 ? "-" : "+") + String.format(form, size / 60, size % 60);
            default:
                String name = nameOf(letter, count, value);
                return name != null ? name : String.format("%0" + count + "d", value);
        }
    }

    private static String nameOf(char letter, int count, int value) {
        if (letter == 'a') {
            return HALVES[value];
        }
        if (count < 3 || letter != 'M' && letter != 'E') {
            return null;
        }
        String name = letter == 'M' ? MONTHS[value - 1] : DAYS[value - 1];
        return count == 3 ? name.substring(0, 3) : name;
    }

    int print(int slot) {
        if (slot < 0 || slot > 5 || slots.get(slot) == null) {
            return -2;
        }
        try {
            page = written(slots.get(slot), now);
            return page.length();
        } catch (Fail missing) {
            return -1;
        }
    }

    int charAt(int p) {
        return p >= 0 && p < page.length() ? page.charAt(p) : -1;
    }

    boolean copy() {
        text = page.length() > 60 ? text : page;
        return page.length() <= 60;
    }

    // Reading.

    private static final class Reading {
        final String text;
        final boolean loose;
        int place = 0;
        Map<Character, Integer> known = new HashMap<>();

        Reading(String text, boolean loose) {
            this.text = text;
            this.loose = loose;
        }

        void pieces(List<Piece> pieces) throws Fail {
            for (int k = 0; k < pieces.size(); k++) {
                Piece piece = pieces.get(k);
                if (piece.inside() == null) {
                    int rest = 0;
                    for (int next = k + 1; next < pieces.size() && pieces.get(next).fixed(); next++) {
                        rest += pieces.get(next).count();
                    }
                    piece(piece, rest);
                } else {
                    Map<Character, Integer> before = new HashMap<>(known);
                    int begin = place;
                    try {
                        pieces(piece.inside());
                    } catch (Fail givenUp) {
                        known = before;
                        place = begin;
                    }
                }
            }
        }

        private void piece(Piece piece, int rest) throws Fail {
            char letter = piece.letter();
            if (letter == Piece.CHARACTER) {
                word(String.valueOf((char) piece.count()));
            } else if (letter == 'a' || letter == 'E' || letter == 'M' && piece.count() > 2) {
                name(piece);
            } else if (letter == 'X' || letter == 'x') {
                offset(piece);
            } else if (piece.fixed()) {
                fixed(piece);
            } else {
                free(piece, rest);
            }
        }

        private boolean stands(String word) {
            return text.regionMatches(loose, place, word, 0, word.length());
        }

        private void word(String word) throws Fail {
            if (!stands(word)) {
                throw new Fail();
            }
            place += word.length();
        }

        private void learn(char letter, int value, int end) throws Fail {
            Integer before = known.putIfAbsent(letter, value);
            if (before != null && before != value) {
                throw new Fail();
            }
            place = end;
        }

        private void name(Piece piece) throws Fail {
            int first = piece.letter() == 'a' ? 0 : 1;
            int last = piece.letter() == 'a' ? 1 : piece.letter() == 'E' ? 7 : 12;
            for (int value = first; value <= last; value++) {
                String name = nameOf(piece.letter(), piece.count(), value);
                if (stands(name)) {
                    learn(piece.letter(), value, place + name.length());
                    return;
                }
            }
            throw new Fail();
        }

        private Matcher here(String expression) throws Fail {
            Matcher found = Pattern.compile(expression).matcher(text).region(place, text.length());
            if (!found.lookingAt()) {
                throw new Fail();
            }
            return found;
        }

        private void fixed(Piece piece) throws Fail {
            String digits = here("[0-9]{" + piece.count() + "}").group();
            int value = Integer.parseInt(digits);
            if (piece.letter() == 'S') {
                value = Integer.parseInt((digits + "00000000").substring(0, 9));
            }
            boolean year = piece.letter() == 'u' || piece.letter() == 'Y';
            learn(piece.letter(), year ? 2000 + value : value, place + digits.length());
        }

        private void free(Piece piece, int rest) throws Fail {
            boolean year = piece.letter() == 'u' || piece.letter() == 'Y';
            boolean four = piece.count() == 4;
            int min = four ? 4 : 1;
            int max = year ? 9 : piece.letter() == 'D' ? 3 : 2;
            String signs = !year ? "" : four ? "[-+]?" : "-?";
            Matcher found = here("(" + signs + ")([0-9]{0," + (max + rest) + "})");
            String sign = found.group(1);
            int n = found.group(2).length();
            if (n < min) {
                throw new Fail();
            }
            String digits = found.group(2).substring(0, Math.max(min, n - rest));
            int value = Integer.parseInt(digits);
            if (sign.equals("-") && value == 0 || four && sign.equals("+") && digits.length() == 4
                || four && sign.isEmpty() && digits.length() > 4) {
                throw new Fail();
            }
            learn(piece.letter(), sign.equals("-") ? -value : value, place + sign.length() + digits.length());
        }

        private void offset(Piece piece) throws Fail {
            if (piece.letter() == 'X' && stands("Z")) {
                learn('X', 0, place + 1);
                return;
            }
            String[] minutes = {"", "([0-9]{2})?", "([0-9]{2})", ":([0-9]{2})"};
            Matcher found = here("([-+])([0-9]{2})" + minutes[piece.count()]);
            int hour = Integer.parseInt(found.group(2));
            int minute = found.group(3) == null ? 0 : Integer.parseInt(found.group(3));
            if (minute > 59 || hour * 60 + minute > 1080) {
                throw new Fail();
            }
            int size = hour * 60 + minute;
            learn('X', found.group(1).equals("-") ? -size : size, found.end());
        }
    }

    int read(int slot, int style, boolean loose) {
        if (slot < 0 || slot > 5 || slots.get(slot) == null || style < 0 || style > 2) {
            return -2;
        }
        Reading reading = new Reading(text, loose);
        int length = text.length();
        text = "";
        try {
            reading.pieces(slots.get(slot));
            if (reading.place != length) {
                return reading.place;
            }
        } catch (Fail failure) {
            return reading.place;
        }
        try {
            read = resolved(reading.known, style);
            return -1;
        } catch (Fail clash) {
            return 100;
        }
    }

    // Resolving.

    private static void demand(boolean condition) throws Fail {
        if (!condition) {
            throw new Fail();
        }
    }

    private static boolean knows(Map<Character, Integer> known, String letters) {
        return letters.chars().allMatch(c -> known.containsKey((char) c));
    }

    private static Moment resolved(Map<Character, Integer> known, int style) throws Fail {
        demand(!known.isEmpty());
        Map<Character, Integer> unused = new HashMap<>(known);
        boolean dated = "uMdDEYw".chars().anyMatch(c -> known.containsKey((char) c));
        boolean timed = "HhamsS".chars().anyMatch(c -> known.containsKey((char) c));
        long day = dated ? resolvedDay(known, style == 2, style == 1, unused) : 0;
        long second = timed ? resolvedSecond(known, style == 2, unused) : 0;
        unused.remove('X');
        Integer offset = known.get('X');
        Moment moment = new Moment(dated ? day + second / 86400 : 0, second % 86400, known.getOrDefault('S', 0),
            offset == null ? 0 : offset, (dated ? 1 : 0) + (timed ? 2 : 0) + (offset != null ? 4 : 0));
        for (Map.Entry<Character, Integer> entry : unused.entrySet()) {
            demand(entry.getValue() == valueOf(entry.getKey(), moment));
        }
        return moment;
    }

    private static long resolvedDay(Map<Character, Integer> known, boolean lenient, boolean smart,
            Map<Character, Integer> unused) throws Fail {
        if (knows(known, "uMd")) {
            unused.keySet().removeAll(List.of('u', 'M', 'd'));
            int month = known.get('M');
            long year = known.get('u') + Math.floorDiv(month - 1, 12);
            int inYear = Math.floorMod(month - 1, 12) + 1;
            int day = known.get('d');
            int length = LocalDate.of((int) Math.floorMod(year, 400L), inYear, 1).lengthOfMonth();
            demand(lenient || month >= 1 && month <= 12 && day >= 1 && day <= (smart ? 31 : length));
            return dayOf(year, inYear, smart ? Math.min(day, length) : day);
        }
        if (knows(known, "uD")) {
            unused.keySet().removeAll(List.of('u', 'D'));
            int day = known.get('D');
            long first = dayOf(known.get('u'), 1, 1);
            demand(lenient || day >= 1 && first + day - 1 < dayOf(known.get('u') + 1L, 1, 1));
            return first + day - 1;
        }
        demand(knows(known, "YwE"));
        unused.keySet().removeAll(List.of('Y', 'w', 'E'));
        long cycles = Math.floorDiv(known.get('Y'), 400);
        LocalDate fourth = LocalDate.of(Math.floorMod(known.get('Y'), 400), 1, 4);
        LocalDate monday = fourth.with(java.time.DayOfWeek.MONDAY);
        int week = known.get('w');
        long weeks = IsoFields.WEEK_OF_WEEK_BASED_YEAR.rangeRefinedBy(fourth).getMaximum();
        demand(lenient || week >= 1 && week <= weeks);
        return monday.plusWeeks(week - 1L).plusDays(known.get('E') - 1L).toEpochDay() + cycles * 146097L;
    }

    private static long resolvedSecond(Map<Character, Integer> known, boolean lenient,
            Map<Character, Integer> unused) throws Fail {
        unused.keySet().removeAll(List.of('H', 'm', 's', 'S'));
        int minute = known.getOrDefault('m', 0);
        int second = known.getOrDefault('s', 0);
        demand(lenient || minute < 60 && second < 60);
        int hour = 0;
        if (knows(known, "H")) {
            hour = known.get('H');
            demand(lenient || hour < 24);
        } else if (knows(known, "ha")) {
            unused.keySet().removeAll(List.of('h', 'a'));
            int half = known.get('h');
            demand(lenient || half >= 1 && half <= 12);
            hour = 12 * known.get('a') + (half == 12 ? 0 : half);
        }
        return hour * 3600L + minute * 60L + second;
    }

    int parts() {
        return read == null ? 0 : read.parts();
    }

    long seconds() {
        return read == null ? 0 : read.seconds();
    }

    int nano() {
        return read == null ? 0 : read.nano();
    }

    int minutes() {
        return read == null ? 0 : read.offset();
    }

    boolean take() {
        if (read == null || tooFar(read)) {
            return false;
        }
        now = read;
        return true;
    }
}
