/** Promise 2: type. */
public final class TypeTest {
    public static void main(String[] args) {
        Check check = new Check();
        SkeletonClock clock = new SkeletonClock();
        int[] wrong = {0, 9, 10, 31, 127, 128, 160, 255, 256, 0x1075, 65535};
        for (int code : wrong) {
            check.due("type " + code, clock.type((char) code), false);
        }
        check.due("nothing typed", clock.define(0), SkeletonClock.NONE);
        check.due("the empty pattern prints nothing", clock.print(0), 0);
        for (int code = 32; code <= 126; code++) {
            check.due("type " + code, new SkeletonClock().type((char) code), true);
        }
        for (int p = 0; p < 60; p++) {
            check.due("type at " + p, clock.type(p < 58 ? ' ' : ']'), true);
        }
        check.due("the sixty-first", clock.type('a'), false);
        check.due("a wrong one on a full text", clock.type((char) 1), false);
        check.due("the text kept its order", clock.define(0), 20);
        check.due("room again", clock.type('u'), true);
        check.due("only the u stands there", clock.define(0), SkeletonClock.NONE);
        clock.print(0);
        check.due("page", Check.page(clock), "1970");
        check.finish();
    }
}
