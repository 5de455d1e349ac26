/**
 * Prints dates and times by patterns, and reads them back; finds the pattern
 * that is nearest to the fields one asks for.
 */
public final class SkeletonClock {
    public static final int NONE = -1;
    public static final int REFUSED = -2;
    public static final int CLASH = 100;

    private static final int SLOTS = 6;
    private static final int TEXT_ROOM = 60;
    // Twenty pieces, none of them longer than a year such as +999999999.
    private static final int PAGE_ROOM = 200;
    private static final int MOST_PIECES = 20;
    private static final int FIRST_CODE = 32;
    private static final int LAST_CODE = 126;

    private static final int STRICT = 0;
    private static final int SMART = 1;
    private static final int LENIENT = 2;

    private static final int DATE = 1;
    private static final int TIME = 2;
    private static final int OFFSET = 4;
    private static final int ALL_PARTS = 7;

    private static final int LAST_YEAR = 999999999;
    private static final int MOST_MINUTES = 1080;
    private static final int LAST_NANO = 999999999;
    // Beyond the last year by far, yet low enough that no sum with an offset wraps.
    private static final long MOST_SECONDS = 40000000000000000L;
    private static final long DAY_SECONDS = 86400L;

    // A field is known by the place of its letter here; x is a second letter for the field of X.
    private static final String LETTERS = "uYMdDEwHhamsSXx";
    private static final int YEAR = 0;
    private static final int WEEK_YEAR = 1;
    private static final int MONTH = 2;
    private static final int DAY = 3;
    private static final int YEAR_DAY = 4;
    private static final int WEEKDAY = 5;
    private static final int WEEK = 6;
    private static final int HOUR = 7;
    private static final int HALF_HOUR = 8;
    private static final int HALF = 9;
    private static final int MINUTE = 10;
    private static final int SECOND = 11;
    private static final int NANO = 12;
    private static final int ZONE = 13;
    private static final int PLAIN_ZONE = 14;
    private static final int FIELDS = 14;

    private final Row text = new Row(TEXT_ROOM);
    private final Row page = new Row(PAGE_ROOM);
    private final Pattern[] slots = new Pattern[SLOTS];
    private final PatternParser parser = new PatternParser();
    private final Printer printer = new Printer();
    private final TextReader reader = new TextReader();
    private final Resolver resolver = new Resolver();
    private final Moment now = new Moment();
    private final Moment latest = new Moment();
    private int nearest = NONE;

    public SkeletonClock() {
        now.settle(0L, 0, 0, ALL_PARTS);
    }

    public boolean type(char c) {
        return c >= FIRST_CODE && c <= LAST_CODE && text.put(c);
    }

    public int define(int slot) {
        if (!isSlot(slot)) {
            return REFUSED;
        }
        int fault = parser.parse(text);
        text.shorten(0);
        if (fault == NONE) {
            Pattern pattern = slots[slot] == null ? new Pattern() : slots[slot];
            pattern.become(parser.pattern);
            slots[slot] = pattern;
        }
        return fault;
    }

    public int match() {
        // Every wish is a pattern too: one of runs alone, each letter in one of them.
        int fault = parser.parse(text);
        text.shorten(0);
        if (fault != NONE || !parser.pattern.isWish()) {
            return REFUSED;
        }
        int best = NONE;
        int least = 0;
        for (int slot = 0; slot < SLOTS; slot++) {
            Pattern pattern = slots[slot];
            int away = pattern == null ? NONE : pattern.distanceTo(parser.pattern);
            if (away != NONE && (best == NONE || away < least)) {
                best = slot;
                least = away;
            }
        }
        if (best != NONE) {
            nearest = least;
        }
        return best;
    }

    public int distance() {
        return nearest;
    }

    public boolean moment(long seconds, int nano, int minutes, int parts) {
        boolean fits = nano >= 0 && nano <= LAST_NANO
            && minutes >= -MOST_MINUTES && minutes <= MOST_MINUTES
            && parts >= 1 && parts <= ALL_PARTS
            && seconds >= -MOST_SECONDS && seconds <= MOST_SECONDS;
        if (!fits || !isYear(Days.yearOf(Math.floorDiv(seconds + 60L * minutes, DAY_SECONDS)))) {
            return false;
        }
        now.settle(seconds, nano, minutes, parts);
        return true;
    }

    public int field(char letter) {
        int field = LETTERS.indexOf(letter);
        return field >= 0 && field < FIELDS ? now.value(field) : NONE;
    }

    public int print(int slot) {
        Pattern pattern = patternOf(slot);
        if (pattern == null) {
            return REFUSED;
        }
        if (!printer.write(now, pattern)) {
            return NONE;
        }
        page.become(printer.draft);
        return page.size;
    }

    public int charAt(int p) {
        return page.codeAt(p);
    }

    public boolean copy() {
        if (page.size > TEXT_ROOM) {
            return false;
        }
        text.become(page);
        return true;
    }

    public int read(int slot, int style, boolean loose) {
        Pattern pattern = patternOf(slot);
        if (pattern == null || style < STRICT || style > LENIENT) {
            return REFUSED;
        }
        int failure = reader.go(text, pattern, loose);
        text.shorten(0);
        if (failure != NONE) {
            return failure;
        }
        if (!resolver.resolve(reader.known, style)) {
            return CLASH;
        }
        latest.become(resolver.moment);
        return NONE;
    }

    public int parts() {
        return latest.parts;
    }

    public long seconds() {
        return latest.seconds;
    }

    public int nano() {
        return latest.value(NANO);
    }

    public int minutes() {
        return latest.value(ZONE);
    }

    public boolean take() {
        if (latest.parts == 0 || !isYear(latest.value(YEAR))) {
            return false;
        }
        now.become(latest);
        return true;
    }

    private static boolean isSlot(int slot) {
        return slot >= 0 && slot < SLOTS;
    }

    private static boolean isYear(long year) {
        return year >= -LAST_YEAR && year <= LAST_YEAR;
    }

    private Pattern patternOf(int slot) {
        return isSlot(slot) ? slots[slot] : null;
    }

    private static boolean isYearField(int field) {
        return field == YEAR || field == WEEK_YEAR;
    }

    private static int partOf(int field) {
        if (field <= WEEK) {
            return DATE;
        }
        return field <= NANO ? TIME : OFFSET;
    }

    /** A row of characters that grows and shrinks at its end. */
    private static final class Row {
        private final char[] cells;
        int size = 0;

        Row(int room) {
            cells = new char[room];
        }

        boolean put(char c) {
            if (size >= cells.length) {
                return false;
            }
            cells[size] = c;
            size++;
            return true;
        }

        /** Puts down a number that is not below 0, with zeros before it up to the width. */
        void putNumber(int number, int width) {
            int digits = 1;
            for (int rest = number / 10; rest > 0; rest /= 10) {
                digits++;
            }
            int start = size;
            int end = start + Math.max(digits, width);
            if (end > cells.length) {
                return;
            }
            int left = number;
            for (int p = end - 1; p >= start; p--) {
                cells[p] = (char) ('0' + left % 10);
                left /= 10;
            }
            size = end;
        }

        void become(Row other) {
            size = 0;
            for (int p = 0; p < other.size; p++) {
                put((char) other.codeAt(p));
            }
        }

        void shorten(int length) {
            size = Math.max(0, Math.min(size, length));
        }

        int codeAt(int p) {
            return p >= 0 && p < size ? cells[p] : NONE;
        }

        int runLength(int p) {
            int end = p;
            while (end < size && codeAt(end) == codeAt(p)) {
                end++;
            }
            return end - p;
        }

        /** How many digits stand from p on, of which no more than the most are looked at. */
        int digits(int p, int most) {
            int count = 0;
            while (count < most && codeAt(p + count) >= '0' && codeAt(p + count) <= '9') {
                count++;
            }
            return count;
        }

        int number(int p, int width) {
            int number = 0;
            for (int k = 0; k < width; k++) {
                number = number * 10 + codeAt(p + k) - '0';
            }
            return number;
        }
    }

    /** The calendar, in days counted from 1970-01-01. */
    private static final class Days {
        private static final int[] BEFORE_MONTH = {0, 31, 59, 90, 120, 151, 181, 212, 243, 273, 304, 334, 365};
        private static final int LEAPS_BEFORE_1970 = 477;
        private static final long CYCLE_YEARS = 400L;
        private static final long CYCLE_DAYS = 146097L;

        static boolean isLeap(long year) {
            return year % 4 == 0 && (year % 100 != 0 || year % 400 == 0);
        }

        static int yearLength(long year) {
            return isLeap(year) ? 366 : 365;
        }

        static long firstOfYear(long year) {
            long past = year - 1;
            long leaps = Math.floorDiv(past, 4L) - Math.floorDiv(past, 100L) + Math.floorDiv(past, 400L);
            return 365L * (year - 1970) + leaps - LEAPS_BEFORE_1970;
        }

        static long yearOf(long day) {
            // By the mean length of a year the guess is never more than one year off.
            long guess = 1970 + Math.floorDiv(day * CYCLE_YEARS, CYCLE_DAYS);
            if (day < firstOfYear(guess)) {
                return guess - 1;
            }
            return day >= firstOfYear(guess + 1) ? guess + 1 : guess;
        }

        /** The days of the year that lie before a month 1 .. 12, or, with 13, all of them. */
        static int beforeMonth(long year, int month) {
            if (month < 1 || month > BEFORE_MONTH.length) {
                return 0;
            }
            return BEFORE_MONTH[month - 1] + (month > 2 && isLeap(year) ? 1 : 0);
        }

        static int monthLength(long year, int month) {
            return beforeMonth(year, month + 1) - beforeMonth(year, month);
        }

        /** The first day of a month that may lie outside of 1 .. 12, and then in another year. */
        static long firstOfMonth(long year, int month) {
            long actual = year + Math.floorDiv(month - 1, 12);
            return firstOfYear(actual) + beforeMonth(actual, Math.floorMod(month - 1, 12) + 1);
        }

        static int weekday(long day) {
            return (int) Math.floorMod(day + 3, 7L) + 1;
        }

        static long firstMonday(long weekYear) {
            // The week of January 4 is the first whose Thursday lies in the year.
            long fourth = firstOfYear(weekYear) + 3;
            return fourth - weekday(fourth) + 1;
        }
    }

    /** The names of months, days of the week and halves of the day. */
    private static final class Names {
        private static final int ROOM = 9;
        private static final int HALF_ROOM = 2;
        private static final int SHORT = 3;
        // Each name fills up its room with spaces, so that its place can be reckoned.
        private static final String MONTHS =
            "January  February March    April    May      June     July     August   SeptemberOctober  November December ";
        private static final String WEEKDAYS =
            "Monday   Tuesday  WednesdayThursday Friday   Saturday Sunday   ";
        private static final String HALVES = "AMPM";

        private static String all(int field) {
            if (field == MONTH) {
                return MONTHS;
            }
            return field == WEEKDAY ? WEEKDAYS : HALVES;
        }

        private static int room(int field) {
            return field == HALF ? HALF_ROOM : ROOM;
        }

        static int first(int field) {
            return field == HALF ? 0 : 1;
        }

        static int last(int field) {
            return field == MONTH ? 12 : field == WEEKDAY ? 7 : 1;
        }

        /** The code at a place of a value's name; NONE behind its end. */
        static int letter(int field, int count, int value, int place) {
            int end = count == SHORT ? SHORT : room(field);
            int p = (value - first(field)) * room(field) + place;
            if (place < 0 || place >= end || p < 0 || p >= all(field).length()) {
                return NONE;
            }
            char letter = all(field).charAt(p);
            return letter == ' ' ? NONE : letter;
        }
    }

    /**
     * A row of pieces. A piece has a kind, which is its letter's place in LETTERS, CHARACTER or SECTION,
     * and a number: the count of a letter, the code of a character, or the piece behind a section's last.
     * A section's own pieces follow on it.
     */
    private static final class Pattern {
        static final int CHARACTER = 15;
        static final int SECTION = 16;
        private static final int FAR = 1000;
        private static final int NAME_OR_NUMBER = 100;
        // Bit n is set when the letter may stand n times.
        private static final int[] ALLOWED = {22, 22, 30, 6, 10, 24, 6, 6, 6, 2, 6, 6, 1022, 14, 14};

        private final int[] kinds = new int[MOST_PIECES];
        private final int[] numbers = new int[MOST_PIECES];
        int size = 0;

        static boolean isAllowed(int letter, int count) {
            return letter >= 0 && letter < ALLOWED.length && count >= 1 && count <= 9
                && (ALLOWED[letter] >> count & 1) == 1;
        }

        void become(Pattern other) {
            size = 0;
            for (int piece = 0; piece < other.size; piece++) {
                add(other.kind(piece), other.number(piece));
            }
        }

        boolean add(int kind, int number) {
            if (size >= MOST_PIECES) {
                return false;
            }
            kinds[size] = kind;
            numbers[size] = number;
            size++;
            return true;
        }

        void endSection(int piece) {
            if (piece >= 0 && piece < size) {
                numbers[piece] = size;
            }
        }

        int kind(int piece) {
            return piece >= 0 && piece < size ? kinds[piece] : NONE;
        }

        int number(int piece) {
            return piece >= 0 && piece < size ? numbers[piece] : 0;
        }

        boolean isName(int piece) {
            int kind = kind(piece);
            return kind == WEEKDAY || kind == HALF || kind == MONTH && number(piece) > 2;
        }

        boolean isFixed(int piece) {
            int kind = kind(piece);
            if (kind == NANO) {
                return true;
            }
            return kind >= 0 && kind < NANO && number(piece) == (kind == YEAR_DAY ? 3 : 2);
        }

        /** The sum of the counts of the fixed pieces directly behind a piece whose section ends at the limit. */
        int fixedBehind(int piece, int limit) {
            int sum = 0;
            for (int next = piece + 1; next < limit && isFixed(next); next++) {
                sum += number(next);
            }
            return sum;
        }

        /** The count of the first piece of a letter; 0 when there is none. */
        private int firstCount(int letter) {
            for (int piece = 0; piece < size; piece++) {
                if (kind(piece) == letter) {
                    return number(piece);
                }
            }
            return 0;
        }

        boolean isWish() {
            int seen = 0;
            for (int piece = 0; piece < size; piece++) {
                int bit = 1 << kind(piece);
                if (kind(piece) > PLAIN_ZONE || (seen & bit) != 0) {
                    return false;
                }
                seen |= bit;
            }
            return true;
        }

        int distanceTo(Pattern wish) {
            int sum = 0;
            for (int letter = 0; letter <= PLAIN_ZONE; letter++) {
                sum += letterDistance(letter, firstCount(letter), wish.firstCount(letter));
            }
            return sum;
        }

        private static int letterDistance(int letter, int mine, int wished) {
            if (mine == 0 || wished == 0) {
                return mine == wished ? 0 : FAR;
            }
            boolean apart = letter == MONTH && mine > 2 != wished > 2;
            return Math.abs(mine - wished) + (apart ? NAME_OR_NUMBER : 0);
        }
    }

    /** Makes a pattern of a text, or finds its fault. */
    private static final class PatternParser {
        final Pattern pattern = new Pattern();
        private final int[] open = new int[MOST_PIECES];
        private int depth = 0;
        private boolean quoted = false;

        /** Answers NONE, or the fault. */
        int parse(Row text) {
            pattern.size = 0;
            depth = 0;
            quoted = false;
            int p = 0;
            while (p < text.size) {
                int width = step(text, p);
                if (width <= 0) {
                    return p;
                }
                p += width;
            }
            return depth > 0 ? text.size : NONE;
        }

        /** Answers how many characters it went over; 0 when the fault is here. */
        private int step(Row text, int p) {
            int code = text.codeAt(p);
            if (code == '\'') {
                return stepMark(text, p);
            }
            if (quoted) {
                return added(Pattern.CHARACTER, code, 1);
            }
            if (code >= 'a' && code <= 'z' || code >= 'A' && code <= 'Z') {
                return stepRun(text, p);
            }
            if (code == '[') {
                return stepOpen();
            }
            return code == ']' ? stepClose() : added(Pattern.CHARACTER, code, 1);
        }

        private int stepMark(Row text, int p) {
            if (text.codeAt(p + 1) == '\'') {
                return added(Pattern.CHARACTER, '\'', 2);
            }
            if (!quoted && !quoteEnds(text, p)) {
                return 0;
            }
            quoted = !quoted;
            return 1;
        }

        private static boolean quoteEnds(Row text, int start) {
            int p = start + 1;
            while (p < text.size) {
                if (text.codeAt(p) != '\'') {
                    p++;
                } else if (text.codeAt(p + 1) == '\'') {
                    p += 2;
                } else {
                    return true;
                }
            }
            return false;
        }

        private int stepRun(Row text, int p) {
            int letter = LETTERS.indexOf((char) text.codeAt(p));
            int count = text.runLength(p);
            return Pattern.isAllowed(letter, count) ? added(letter, count, count) : 0;
        }

        private int stepOpen() {
            int piece = pattern.size;
            if (depth >= open.length || !pattern.add(Pattern.SECTION, 0)) {
                return 0;
            }
            open[depth] = piece;
            depth++;
            return 1;
        }

        private int stepClose() {
            if (depth <= 0) {
                return 0;
            }
            depth--;
            pattern.endSection(open[depth]);
            return 1;
        }

        private int added(int kind, int number, int width) {
            return pattern.add(kind, number) ? width : 0;
        }
    }

    /** The sections that are open at a piece, each with what to go back to when it is given up. */
    private static final class Nest {
        private final int[] ends = new int[MOST_PIECES];
        private final int[] places = new int[MOST_PIECES];
        private final int[] marks = new int[MOST_PIECES];
        private int depth = 0;

        void clear() {
            depth = 0;
        }

        void open(int end, int place, int mark) {
            if (depth < MOST_PIECES) {
                ends[depth] = end;
                places[depth] = place;
                marks[depth] = mark;
                depth++;
            }
        }

        void closeBefore(int piece) {
            while (depth > 0 && ends[depth - 1] <= piece) {
                depth--;
            }
        }

        boolean isEmpty() {
            return depth == 0;
        }

        /** The piece behind the innermost section, or behind the whole pattern of that size. */
        int limit(int size) {
            return depth > 0 ? ends[depth - 1] : size;
        }

        int place() {
            return depth > 0 ? places[depth - 1] : 0;
        }

        int mark() {
            return depth > 0 ? marks[depth - 1] : 0;
        }
    }

    /** A moment with all its fields, those of the parts that are not there too. */
    private static final class Moment {
        private final int[] values = new int[FIELDS];
        long seconds = 0L;
        int parts = 0;

        void settle(long seconds, int nano, int minutes, int parts) {
            this.seconds = seconds;
            this.parts = parts;
            long local = seconds + 60L * minutes;
            settleDate(Math.floorDiv(local, DAY_SECONDS));
            settleTime((int) Math.floorMod(local, DAY_SECONDS));
            values[NANO] = nano;
            values[ZONE] = minutes;
        }

        private void settleDate(long day) {
            long year = Days.yearOf(day);
            int yearDay = (int) (day - Days.firstOfYear(year)) + 1;
            int month = 1;
            while (month < 12 && Days.beforeMonth(year, month + 1) < yearDay) {
                month++;
            }
            long thursday = day - Days.weekday(day) + 4;
            long weekYear = Days.yearOf(thursday);
            values[YEAR] = (int) year;
            values[MONTH] = month;
            values[DAY] = yearDay - Days.beforeMonth(year, month);
            values[YEAR_DAY] = yearDay;
            values[WEEKDAY] = Days.weekday(day);
            values[WEEK] = (int) (thursday - Days.firstOfYear(weekYear)) / 7 + 1;
            values[WEEK_YEAR] = (int) weekYear;
        }

        private void settleTime(int second) {
            int hour = second / 3600;
            values[HOUR] = hour;
            values[HALF_HOUR] = hour % 12 == 0 ? 12 : hour % 12;
            values[HALF] = hour / 12;
            values[MINUTE] = second / 60 % 60;
            values[SECOND] = second % 60;
        }

        void become(Moment other) {
            settle(other.seconds, other.value(NANO), other.value(ZONE), other.parts);
        }

        int value(int field) {
            return field >= 0 && field < FIELDS ? values[field] : NONE;
        }

        boolean has(int field) {
            return (parts & partOf(field)) != 0;
        }
    }

    /** Puts a moment down by a pattern. */
    private static final class Printer {
        final Row draft = new Row(PAGE_ROOM);
        private final Nest nest = new Nest();

        /** Answers false when a piece outside of sections needs a field that is not there. */
        boolean write(Moment moment, Pattern pattern) {
            draft.shorten(0);
            nest.clear();
            int piece = 0;
            while (piece < pattern.size) {
                nest.closeBefore(piece);
                int next = piece + 1;
                int kind = pattern.kind(piece);
                if (kind == Pattern.SECTION) {
                    nest.open(pattern.number(piece), draft.size, 0);
                } else if (kind == Pattern.CHARACTER || moment.has(kind)) {
                    writePiece(moment, pattern, piece);
                } else if (nest.isEmpty()) {
                    return false;
                } else {
                    draft.shorten(nest.place());
                    next = Math.max(next, nest.limit(pattern.size));
                }
                piece = next;
            }
            return true;
        }

        private void writePiece(Moment moment, Pattern pattern, int piece) {
            int kind = pattern.kind(piece);
            int number = pattern.number(piece);
            if (kind == Pattern.CHARACTER) {
                draft.put((char) number);
            } else if (pattern.isName(piece)) {
                writeName(kind, number, moment.value(kind));
            } else if (isYearField(kind)) {
                writeYear(moment.value(kind), number);
            } else if (kind == NANO) {
                writeNano(moment.value(NANO), number);
            } else if (kind == ZONE || kind == PLAIN_ZONE) {
                writeOffset(moment.value(ZONE), kind, number);
            } else {
                draft.putNumber(moment.value(kind), number);
            }
        }

        private void writeName(int field, int count, int value) {
            int place = 0;
            while (place < Names.ROOM && Names.letter(field, count, value, place) != NONE) {
                draft.put((char) Names.letter(field, count, value, place));
                place++;
            }
        }

        private void writeYear(int year, int count) {
            if (count == 2) {
                draft.putNumber(Math.floorMod(year, 100), 2);
                return;
            }
            if (year < 0) {
                draft.put('-');
            } else if (count == 4 && year > 9999) {
                draft.put('+');
            }
            draft.putNumber(Math.abs(year), count);
        }

        private void writeNano(int nano, int count) {
            int digits = nano;
            for (int k = count; k < 9; k++) {
                digits /= 10;
            }
            draft.putNumber(digits, count);
        }

        private void writeOffset(int offset, int kind, int count) {
            if (kind == ZONE && offset == 0) {
                draft.put('Z');
                return;
            }
            int minutes = Math.abs(offset) % 60;
            draft.put(offset < 0 ? '-' : '+');
            draft.putNumber(Math.abs(offset) / 60, 2);
            if (count == 3) {
                draft.put(':');
            }
            if (count != 1 || minutes != 0) {
                draft.putNumber(minutes, 2);
            }
        }
    }

    /** The values that a reading has made known, in the order in which it did. */
    private static final class Known {
        private final int[] values = new int[FIELDS];
        private final boolean[] flags = new boolean[FIELDS];
        private final int[] order = new int[FIELDS];
        int size = 0;

        /** Answers false when another value is known already. */
        boolean learn(int field, int value) {
            if (field < 0 || field >= FIELDS) {
                return false;
            }
            if (flags[field]) {
                return values[field] == value;
            }
            if (size >= FIELDS) {
                return false;
            }
            values[field] = value;
            flags[field] = true;
            order[size] = field;
            size++;
            return true;
        }

        /** Forgets all but the first so many. */
        void forget(int rest) {
            while (size > 0 && size > rest) {
                size--;
                flags[order[size]] = false;
            }
        }

        boolean has(int field) {
            return field >= 0 && field < FIELDS && flags[field];
        }

        boolean hasOneOf(int first, int last) {
            for (int field = first; field <= last; field++) {
                if (has(field)) {
                    return true;
                }
            }
            return false;
        }

        int value(int field) {
            return has(field) ? values[field] : 0;
        }
    }

    /** Goes through a text by a pattern; what it reads is in known then. */
    private static final class TextReader {
        final Known known = new Known();
        private final Nest nest = new Nest();
        private boolean loose = false;
        private int place = 0;

        /** Answers NONE, or the place at which the reading fails. */
        int go(Row text, Pattern pattern, boolean loosely) {
            loose = loosely;
            place = 0;
            known.forget(0);
            nest.clear();
            int piece = 0;
            while (piece < pattern.size) {
                nest.closeBefore(piece);
                int next = piece + 1;
                if (pattern.kind(piece) == Pattern.SECTION) {
                    nest.open(pattern.number(piece), place, known.size);
                } else {
                    int end = endOf(text, pattern, piece);
                    if (end != NONE) {
                        place = end;
                    } else if (nest.isEmpty()) {
                        return place;
                    } else {
                        place = nest.place();
                        known.forget(nest.mark());
                        next = Math.max(next, nest.limit(pattern.size));
                    }
                }
                piece = next;
            }
            return place == text.size ? NONE : place;
        }

        /** Where a piece that begins at the place ends; NONE when it fails. */
        private int endOf(Row text, Pattern pattern, int piece) {
            int kind = pattern.kind(piece);
            int number = pattern.number(piece);
            if (kind == Pattern.CHARACTER) {
                return isAlike(text.codeAt(place), number) ? place + 1 : NONE;
            }
            if (pattern.isName(piece)) {
                return endOfName(text, kind, number);
            }
            if (kind == ZONE || kind == PLAIN_ZONE) {
                return endOfOffset(text, kind, number);
            }
            return pattern.isFixed(piece)
                ? endOfFixed(text, kind, number) : endOfFree(text, pattern, piece);
        }

        private int endWith(int field, int value, int end) {
            return known.learn(field, value) ? end : NONE;
        }

        private boolean isAlike(int code, int other) {
            return code == other || loose && small(code) == small(other);
        }

        private static int small(int code) {
            return code >= 'A' && code <= 'Z' ? code - 'A' + 'a' : code;
        }

        private int endOfName(Row text, int field, int count) {
            for (int value = Names.first(field); value <= Names.last(field); value++) {
                int end = endOfLetters(text, field, count, value);
                if (end != NONE) {
                    return endWith(field, value, end);
                }
            }
            return NONE;
        }

        private int endOfLetters(Row text, int field, int count, int value) {
            int length = 0;
            while (length < Names.ROOM && Names.letter(field, count, value, length) != NONE) {
                if (!isAlike(text.codeAt(place + length), Names.letter(field, count, value, length))) {
                    return NONE;
                }
                length++;
            }
            return place + length;
        }

        private int endOfFixed(Row text, int field, int count) {
            if (text.digits(place, count) < count) {
                return NONE;
            }
            int value = text.number(place, count);
            if (isYearField(field)) {
                value += 2000;
            }
            if (field == NANO) {
                for (int k = count; k < 9; k++) {
                    value *= 10;
                }
            }
            return endWith(field, value, place + count);
        }

        private int endOfFree(Row text, Pattern pattern, int piece) {
            int field = pattern.kind(piece);
            int count = pattern.number(piece);
            int sign = signOf(text, field, count);
            int start = sign == NONE ? place : place + 1;
            int least = count == 4 ? 4 : 1;
            int rest = pattern.fixedBehind(piece, nest.limit(pattern.size));
            int standing = text.digits(start, mostDigits(field) + rest);
            if (standing < least) {
                return NONE;
            }
            int width = Math.max(least, standing - rest);
            int value = text.number(start, width);
            boolean badSign = sign == '-' && value == 0
                || count == 4 && (sign == '+' && width == 4 || sign == NONE && width > 4);
            return badSign ? NONE : endWith(field, sign == '-' ? -value : value, start + width);
        }

        /** The sign that stands before the digits of a year; NONE when there is none that may. */
        private int signOf(Row text, int field, int count) {
            int code = text.codeAt(place);
            return isYearField(field) && (code == '-' || code == '+' && count == 4) ? code : NONE;
        }

        private static int mostDigits(int field) {
            if (isYearField(field)) {
                return 9;
            }
            return field == YEAR_DAY ? 3 : 2;
        }

        private int endOfOffset(Row text, int kind, int count) {
            int sign = text.codeAt(place);
            if (kind == ZONE && isAlike(sign, 'Z')) {
                return endWith(ZONE, 0, place + 1);
            }
            if (sign != '+' && sign != '-' || text.digits(place + 1, 2) < 2) {
                return NONE;
            }
            int end = place + 3;
            if (count == 3) {
                if (text.codeAt(end) != ':') {
                    return NONE;
                }
                end++;
            }
            int minutes = 0;
            if (text.digits(end, 2) == 2) {
                minutes = text.number(end, 2);
                end += 2;
            } else if (count != 1) {
                return NONE;
            }
            int offset = 60 * text.number(place + 1, 2) + minutes;
            if (minutes > 59 || offset > MOST_MINUTES) {
                return NONE;
            }
            return endWith(ZONE, sign == '-' ? -offset : offset, end);
        }
    }

    /** Makes a moment of what is known. */
    private static final class Resolver {
        final Moment moment = new Moment();
        private int style = STRICT;
        // Bit n is set when the value of field n went into the moment.
        private int used = 0;
        private long day = 0L;
        private int second = 0;

        /** Answers false for a clash; the moment means nothing then. */
        boolean resolve(Known known, int by) {
            style = by;
            used = 0;
            day = 0L;
            second = 0;
            int parts = (known.hasOneOf(YEAR, WEEK) ? DATE : 0)
                + (known.hasOneOf(HOUR, NANO) ? TIME : 0)
                + (known.has(ZONE) ? OFFSET : 0);
            boolean dated = (parts & DATE) != 0;
            boolean timed = (parts & TIME) != 0;
            if (parts == 0 || dated && !findDate(known) || timed && !findTime(known)) {
                return false;
            }
            if (dated) {
                day += second / DAY_SECONDS;
            }
            long local = day * DAY_SECONDS + second % DAY_SECONDS;
            int offset = known.value(ZONE);
            moment.settle(local - 60L * offset, known.value(NANO), offset, parts);
            return agrees(known);
        }

        private int use(Known known, int field) {
            used |= 1 << field;
            return known.value(field);
        }

        private boolean findDate(Known known) {
            if (known.has(YEAR) && known.has(MONTH) && known.has(DAY)) {
                return findByMonth(use(known, YEAR), use(known, MONTH), use(known, DAY));
            }
            if (known.has(YEAR) && known.has(YEAR_DAY)) {
                return findByYearDay(use(known, YEAR), use(known, YEAR_DAY));
            }
            if (known.has(WEEK_YEAR) && known.has(WEEK) && known.has(WEEKDAY)) {
                return findByWeek(use(known, WEEK_YEAR), use(known, WEEK), use(known, WEEKDAY));
            }
            return false;
        }

        private boolean findByMonth(int year, int month, int monthDay) {
            int actual = monthDay;
            if (style != LENIENT) {
                if (month < 1 || month > 12) {
                    return false;
                }
                int length = Days.monthLength(year, month);
                if (style == SMART && monthDay <= 31) {
                    actual = Math.min(monthDay, length);
                }
                if (actual < 1 || actual > length) {
                    return false;
                }
            }
            day = Days.firstOfMonth(year, month) + actual - 1;
            return true;
        }

        private boolean findByYearDay(int year, int yearDay) {
            day = Days.firstOfYear(year) + yearDay - 1;
            return style == LENIENT || yearDay >= 1 && yearDay <= Days.yearLength(year);
        }

        private boolean findByWeek(int weekYear, int week, int weekday) {
            day = Days.firstMonday(weekYear) + 7L * (week - 1) + weekday - 1;
            return style == LENIENT || week >= 1 && day < Days.firstMonday(weekYear + 1L);
        }

        private boolean findTime(Known known) {
            int hour = 0;
            boolean fits = true;
            if (known.has(HOUR)) {
                hour = use(known, HOUR);
                fits = hour <= 23;
            } else if (known.has(HALF_HOUR) && known.has(HALF)) {
                int half = use(known, HALF_HOUR);
                hour = 12 * use(known, HALF) + (half == 12 ? 0 : half);
                fits = half >= 1 && half <= 12;
            }
            int minute = use(known, MINUTE);
            int rest = use(known, SECOND);
            use(known, NANO);
            second = 3600 * hour + 60 * minute + rest;
            return style == LENIENT || fits && minute <= 59 && rest <= 59;
        }

        private boolean agrees(Known known) {
            for (int field = YEAR; field <= NANO; field++) {
                boolean open = known.has(field) && (used >> field & 1) == 0;
                if (open && known.value(field) != moment.value(field)) {
                    return false;
                }
            }
            return true;
        }
    }
}
