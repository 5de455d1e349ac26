/** Promise 2: each boundary case that the document names for type. */
public final class EdgesOfTypeTest {
    private static final Check check = new Check();
    private static final String SIXTY = "SSSSSSSSS-".repeat(6);

    private static void codes() {
        check.sentence("false when c is not 32 .. 126");
        for (int code = 0; code <= 65535; code++) {
            boolean good = code >= 32 && code <= 126;
            check.due("type " + code, new SkeletonClock().type((char) code), good);
        }
        for (char code : new char[] {31, 127, 255, 256 + 'u', 65535}) {
            SkeletonClock clock = new SkeletonClock();
            clock.type(code);
            check.due("characters of the text after " + (int) code, Check.textLength(clock), 0);
        }
        for (char code : new char[] {32, 126}) {
            SkeletonClock clock = new SkeletonClock();
            clock.type(code);
            check.due("characters of the text after " + (int) code, Check.textLength(clock), 1);
            clock.type(code);
            clock.define(0);
            clock.print(0);
            check.due("the character itself", clock.charAt(0), code);
        }
    }

    private static void sixtyCharacters() {
        check.sentence("false when [..] the text has 60");
        SkeletonClock clock = new SkeletonClock();
        for (int p = 0; p < 60; p++) {
            check.due("type at " + p, clock.type(SIXTY.charAt(p)), true);
        }
        for (char c : new char[] {'-', 'S', ' ', '~', 31, 127}) {
            check.due("type " + (int) c + " at 60", clock.type(c), false);
        }
        check.due("define of the 60", clock.define(0), SkeletonClock.NONE);
        check.due("print of the 60", clock.print(0), 60);
        check.due("the last of the 60", clock.charAt(59), '-');
        check.due("type when the text went", clock.type('-'), true);
    }

    private static void fullTextBehindCopy() {
        check.sentence("false when [..] the text has 60");
        SkeletonClock clock = new SkeletonClock();
        Check.define(clock, 0, SIXTY);
        clock.print(0);
        clock.copy();
        check.due("type behind a copy of 60", clock.type('-'), false);
        check.due("read of the 60", clock.read(0, 0, false), SkeletonClock.NONE);
        Check.define(clock, 0, SIXTY.substring(1));
        clock.print(0);
        clock.copy();
        check.due("type behind a copy of 59", clock.type('-'), true);
        check.due("type behind these", clock.type('-'), false);
        check.due("the sixtieth is one too many", clock.read(0, 0, false), 59);
    }

    public static void main(String[] args) {
        codes();
        sixtyCharacters();
        fullTextBehindCopy();
        check.finish();
    }
}
