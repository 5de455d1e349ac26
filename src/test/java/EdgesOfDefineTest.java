/** Promise 3: each boundary case that the document names for define and for patterns. */
public final class EdgesOfDefineTest {
    private static final Check check = new Check();
    private static final int GOOD = SkeletonClock.NONE;
    private static final String TWENTY = "-".repeat(20);
    private static final String NINETEEN = "-".repeat(19);

    private static void fault(String text, int want) {
        check.due("define " + text, Check.define(new SkeletonClock(), 0, text), want);
    }

    /** The pieces of a text of characters that stand for themselves, by what they print. */
    private static void stands(String text, String want) {
        SkeletonClock clock = new SkeletonClock();
        check.due("print " + text, Check.printed(clock, text), want);
    }

    private static void slots() {
        check.sentence("REFUSED, the text staying too, when slot is not 0 .. 5");
        for (int slot : new int[] {Integer.MIN_VALUE, -6, -1, 6, 7, Integer.MAX_VALUE}) {
            SkeletonClock clock = new SkeletonClock();
            check.due("define(" + slot + ")", Check.define(clock, slot, "d"), SkeletonClock.REFUSED);
            check.due("the text after it", Check.textLength(clock), 1);
            check.due("a faulty text", Check.define(clock, slot, "q"), SkeletonClock.REFUSED);
            check.due("the text after it", Check.textLength(clock), 1);
            for (int other = 0; other <= 5; other++) {
                check.due("print(" + other + ")", clock.print(other), SkeletonClock.REFUSED);
            }
        }
        for (int slot = 0; slot <= 5; slot++) {
            SkeletonClock clock = new SkeletonClock();
            check.due("define(" + slot + ")", Check.define(clock, slot, "d"), GOOD);
            check.due("print(" + slot + ")", clock.print(slot), 1);
            check.due("print(" + (slot + 1) % 6 + ")", clock.print((slot + 1) % 6), SkeletonClock.REFUSED);
        }
    }

    private static void faultsLeaveTheSlot() {
        check.sentence("Answers NONE, or its fault, the slot staying as it is");
        SkeletonClock clock = new SkeletonClock();
        check.due("a fault", Check.define(clock, 5, "dq"), 1);
        check.due("the slot has no pattern still", clock.print(5), SkeletonClock.REFUSED);
        check.due("a pattern", Check.define(clock, 5, "d-d"), GOOD);
        for (String text : new String[] {"q", "u]", TWENTY + "-", "u'a", "[u", "uuuuMM-uuu"}) {
            check.due("a fault in " + text, Check.define(clock, 5, text) >= 0, true);
            check.due("characters by the pattern from before", clock.print(5), 3);
            check.due("page", Check.page(clock), "1-1");
        }
        check.due("the pattern without characters", Check.define(clock, 5, ""), GOOD);
        check.due("characters by it", clock.print(5), 0);
    }

    private static void theTextGoes() {
        check.sentence("The text is empty then.");
        for (String text : new String[] {"u", "", "q", "]", "'", "[", TWENTY, TWENTY + "-", "-".repeat(60)}) {
            SkeletonClock clock = new SkeletonClock();
            Check.define(clock, 0, text);
            check.due("characters of the text after " + text, Check.textLength(clock), 0);
        }
    }

    private static void counts(String letters, int... allowed) {
        for (char letter : letters.toCharArray()) {
            for (int count = 1; count <= 60; count++) {
                boolean good = false;
                for (int one : allowed) {
                    good |= one == count;
                }
                String run = String.valueOf(letter).repeat(count);
                fault(run, good ? GOOD : 0);
                if (count <= 57) {
                    fault("-" + run + "-", good ? GOOD : 1);
                    fault("[" + run + "]", good ? GOOD : 1);
                }
            }
        }
    }

    private static void allowedCounts() {
        check.sentence("Allowed are: [..]");
        counts("uY", 1, 2, 4);
        counts("M", 1, 2, 3, 4);
        counts("dwHhms", 1, 2);
        counts("D", 1, 3);
        counts("E", 3, 4);
        counts("a", 1);
        counts("S", 1, 2, 3, 4, 5, 6, 7, 8, 9);
        counts("Xx", 1, 2, 3);
        counts("bcefgijklnopqrtvyzABCFGIJKLNOPQRTUVWZ");
        check.sentence("a run of one letter [..], as long as it goes");
        fault("ddMddMdd", GOOD);
        fault("dddMdd", 0);
        fault("ddMddd", 3);
        fault("dd''dd", GOOD);
        fault("dd'd'dd", GOOD);
        fault("dd[dd]dd", GOOD);
        fault("dD", GOOD);
        fault("xX", GOOD);
        fault("xxxXXX", GOOD);
    }

    private static void twentyPieces() {
        check.sentence("the twenty-first piece begins");
        String[] one = {"-", "d", "''", "[]", "'''-'"};
        for (String piece : one) {
            boolean two = piece.equals("'''-'");
            fault(two ? "-".repeat(18) + piece : NINETEEN + piece, GOOD);
            if (!two) {
                fault(TWENTY + piece, 20);
                fault(TWENTY + piece + "q", 20);
            }
        }
        fault(NINETEEN + "'''-'", 22);
        fault(NINETEEN + "'a'", GOOD);
        fault(TWENTY + "'a'", 21);
        fault(NINETEEN + "'ab'", 21);
        fault(NINETEEN + "'a'''", 21);
        fault(NINETEEN + "'a''b'", 21);
        fault(NINETEEN + "''''", 21);
        check.sentence("what is between are its pieces (they count too)");
        fault("[" + NINETEEN + "]", GOOD);
        fault("[" + TWENTY + "]", 20);
        fault("[" + "-".repeat(18) + "]-", GOOD);
        fault("[" + "-".repeat(18) + "]--", 21);
        fault("[[" + "-".repeat(18) + "]]", GOOD);
        fault("[[" + NINETEEN + "]]", 20);
        fault("[]".repeat(20), GOOD);
        fault("[]".repeat(20) + "d", 40);
        fault("[".repeat(20) + "]".repeat(20), GOOD);
        fault("[".repeat(21), 20);
        fault("[".repeat(20), 20);
        fault("[".repeat(19), 19);
        fault("dd" + "MMdd".repeat(9) + "M", GOOD);
        fault("MMdd".repeat(10), GOOD);
        fault("MMdd".repeat(10) + "M", 40);
    }

    private static void closingBrackets() {
        check.sentence("a ] stands without a section");
        fault("]", 0);
        fault("u]", 1);
        fault("[u]", GOOD);
        fault("[u]]", 3);
        fault("[[u]]", GOOD);
        fault("[[u]]]", 5);
        fault("[][]", GOOD);
        fault("[][]]", 4);
        fault("][", 0);
        fault(TWENTY + "]", 20);
        fault(NINETEEN + "[]", GOOD);
        fault("[" + NINETEEN + "]]", 21);
        check.sentence("each character between is a piece that stands for itself");
        fault("']'", GOOD);
        fault("'['", GOOD);
        fault("['[']", GOOD);
        fault("[']']", GOOD);
        fault("'['']'", GOOD);
        fault("['[]]']", GOOD);
        fault("[']'", 4);
    }

    private static void quotesWithoutAnEnd() {
        check.sentence("a quote begins that does not end");
        fault("'", 0);
        fault("u'", 1);
        fault("'u", 0);
        fault("'u'", GOOD);
        fault("'u''", 0);
        fault("'u'''", GOOD);
        fault("'u''''", 0);
        fault("'u'-'", 4);
        fault("'u'-'u'", GOOD);
        fault("'''", 2);
        fault("''''", GOOD);
        fault("'''''", 4);
        fault("'''u'", GOOD);
        fault("u'" + "-".repeat(58), 1);
        fault("u'" + "-".repeat(20) + "'", 21);
        fault("u'" + "-".repeat(19) + "'", GOOD);
        fault("['u]", 1);
        fault("[u]'", 3);
        fault(TWENTY + "'", 20);
        fault(NINETEEN + "'", 19);
    }

    private static void twoMarks() {
        check.sentence("two ' directly behind one another, inside a quote or outside of one, are one piece that stands for '");
        stands("''", "'");
        stands("''''", "''");
        stands("-''-", "-'-");
        stands("'a''b'", "a'b");
        stands("'''a'", "'a");
        stands("'a'''", "a'");
        stands("'a''''b'", "a''b");
        stands("'a'-'b'", "a-b");
        stands("''-''", "'-'");
        stands("['']", "'");
        stands("['a''b']", "a'b");
        stands("'d''d'd", "d'd1");
        stands("''d''", "'1'");
    }

    private static void sectionsWithoutAnEnd() {
        check.sentence("When there is none of these but a section does not end, it is the length of the text.");
        fault("[", 1);
        fault("[u", 2);
        fault("[u]", GOOD);
        fault("[[u]", 4);
        fault("u[", 2);
        fault("[" + "SSSSSSSSS-".repeat(5) + "SSSSSSSSS", 60);
        fault("[" + "SSSSSSSSS-".repeat(5) + "SSSSSSSS]", GOOD);
        fault("['u'", 4);
        fault("['u'']", 1);
        fault("[]]", 2);
        fault("[uq", 2);
        fault("[q]", 1);
        fault("[" + TWENTY, 20);
        fault("[" + NINETEEN, 20);
        fault("['", 1);
        fault("['a", 1);
    }

    private static void theFirstPlace() {
        check.sentence("The FAULT of a text that is no pattern is the first place where: [..]");
        fault("q]", 0);
        fault("]q", 0);
        fault("'q]", 0);
        fault("u]'", 1);
        fault("uuu" + TWENTY, 0);
        fault(NINETEEN + "uuu-", 19);
        fault(TWENTY + "uuu", 20);
        fault(TWENTY + "-]", 20);
        fault("]" + TWENTY + "-", 0);
    }

    private static void otherCharacters() {
        check.sentence("any other character is a piece that stands for itself");
        for (char c = 32; c <= 126; c++) {
            boolean letter = c >= 'a' && c <= 'z' || c >= 'A' && c <= 'Z';
            if (!letter && c != '\'' && c != '[' && c != ']') {
                stands(String.valueOf(c), String.valueOf(c));
                stands(String.valueOf(c).repeat(20), String.valueOf(c).repeat(20));
                fault(String.valueOf(c).repeat(21), 20);
            }
            if (c != '\'') {
                stands("'" + c + "'", String.valueOf(c));
            }
        }
        check.sentence("The text without characters is a pattern.");
        fault("", GOOD);
        stands("", "");
    }

    public static void main(String[] args) {
        slots();
        faultsLeaveTheSlot();
        theTextGoes();
        allowedCounts();
        twentyPieces();
        closingBrackets();
        quotesWithoutAnEnd();
        twoMarks();
        sectionsWithoutAnEnd();
        theFirstPlace();
        otherCharacters();
        check.finish();
    }
}
