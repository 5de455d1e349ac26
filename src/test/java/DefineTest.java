/** Promise 3: define, with patterns and their faults. */
public final class DefineTest {
    private static final Check check = new Check();

    private static void fault(String text, int want) {
        check.due("define " + text, Check.define(new SkeletonClock(), 0, text), want);
    }

    private static void good(String text) {
        fault(text, SkeletonClock.NONE);
    }

    private static void allowedCounts(char letter, int... counts) {
        for (int count = 1; count <= 12; count++) {
            boolean allowed = false;
            for (int one : counts) {
                allowed |= one == count;
            }
            fault("-" + String.valueOf(letter).repeat(count) + "-", allowed ? SkeletonClock.NONE : 1);
        }
    }

    private static void runs() {
        String free = "uYMdwHhmsDEaSXx";
        for (char letter = 'A'; letter <= 'z'; letter++) {
            boolean isLetter = letter <= 'Z' || letter >= 'a';
            if (isLetter && free.indexOf(letter) < 0) {
                allowedCounts(letter);
            }
        }
        allowedCounts('u', 1, 2, 4);
        allowedCounts('Y', 1, 2, 4);
        allowedCounts('M', 1, 2, 3, 4);
        for (char letter : "dwHhms".toCharArray()) {
            allowedCounts(letter, 1, 2);
        }
        allowedCounts('D', 1, 3);
        allowedCounts('E', 3, 4);
        allowedCounts('a', 1);
        allowedCounts('S', 1, 2, 3, 4, 5, 6, 7, 8, 9);
        allowedCounts('X', 1, 2, 3);
        allowedCounts('x', 1, 2, 3);
        good("dMd");
        good("Xx");
        good("M'M'M");
        good("MMMM''MMMM");
        fault("ddd", 0);
        fault("uuuuMMddd", 6);
        fault("q", 0);
        fault("d[ddd]", 2);
    }

    private static void quotes() {
        good("''");
        good("''''");
        good("'a'");
        good("'a''b'");
        good("'a'''");
        good("'qqq]['");
        fault("'", 0);
        fault("'''", 2);
        fault("'a''", 0);
        fault("dd'abc", 2);
        fault("[dd'abc]", 3);
        fault("'ab'q", 4);
        fault("'ab''q", 0);
    }

    private static void sections() {
        good("[]");
        good("[[]]");
        good("[u[M[d]]]");
        good("[u][M]");
        good("'['");
        good("']'");
        fault("]", 0);
        fault("[]]", 2);
        fault("u]q", 1);
        fault("uq]", 1);
        fault("[", 1);
        fault("[[u]", 4);
        fault("[u", 2);
        fault("[u'a'", 5);
        fault("[q", 1);
    }

    private static void pieces() {
        String twenty = "12345678901234567890";
        good("");
        good(twenty);
        fault(twenty + "1", 20);
        fault(twenty + "d", 20);
        fault(twenty + "[", 20);
        fault(twenty + "]", 20);
        fault(twenty + "''", 20);
        fault(twenty + "'", 20);
        fault(twenty + "'a", 20);
        fault(twenty + "'a'", 21);
        fault("'" + twenty + "'", SkeletonClock.NONE);
        fault("'" + twenty + "1'", 21);
        fault("'" + twenty + "1", 0);
        fault("'" + twenty + "'''", 21);
        good("[" + twenty.substring(1) + "]");
        fault("[" + twenty + "]", 20);
        good("[".repeat(20) + "]".repeat(20));
        fault("[".repeat(21) + "]".repeat(21), 20);
        good("uuuu".concat("dd".concat("u").repeat(9)).concat("d"));
        fault("uuuu".concat("dd".concat("u").repeat(9)).concat("d-"), 32);
        good("''".repeat(20));
        fault("''".repeat(21), 40);
        good("[]".repeat(20));
        fault("[]".repeat(21), 40);
    }

    private static void slots() {
        SkeletonClock clock = new SkeletonClock();
        Check.type(clock, "u");
        for (int slot : new int[] {-1, 6, 7, Integer.MIN_VALUE, Integer.MAX_VALUE}) {
            check.due("define(" + slot + ")", clock.define(slot), SkeletonClock.REFUSED);
        }
        check.due("the text stayed", clock.define(5), SkeletonClock.NONE);
        check.due("print(5)", clock.print(5), 4);
        check.due("print(4)", clock.print(4), SkeletonClock.REFUSED);
        check.due("a fault", Check.define(clock, 5, "dd-q"), 3);
        check.due("the slot stayed", clock.print(5), 4);
        check.due("the text went", Check.textLength(clock), 0);
        check.due("another pattern", Check.define(clock, 5, "MM"), SkeletonClock.NONE);
        check.due("print(5)", clock.print(5), 2);
        check.due("the text went", Check.textLength(clock), 0);
        Check.define(clock, 0, "d");
        check.due("slots are apart", clock.print(5), 2);
        check.due("a fault inside a quote", Check.define(clock, 0, "'123456789012345678901'"), 21);
        check.due("the next text begins outside of it", Check.define(clock, 0, "q"), 0);
        check.due("a section that does not end", Check.define(clock, 0, "[u"), 2);
        check.due("the next text begins outside of it", Check.define(clock, 0, "]"), 0);
        Check.type(clock, "Md");
        clock.match();
        check.due("a wish is no pattern of a slot", clock.print(0), 1);
    }

    public static void main(String[] args) {
        runs();
        quotes();
        sections();
        pieces();
        slots();
        check.finish();
    }
}
