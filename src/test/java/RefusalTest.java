import java.util.Random;

/**
 * For all promises: "A call that is refused changes nothing (but see define, match and read on the text)."
 * Two clocks go through the same calls; one of them is also asked for what it refuses, and must answer all else alike.
 */
public final class RefusalTest {
    private static final int RUNS = 3000;
    private static final int MOST_CALLS = 512;
    // Enough for one more round of calls and for looking at everything behind it.
    private static final int LAST_CALLS = 180;
    private static final int[] PLACES = {0, 1, 2, 4, 5, 10, 28, 59, 60, 79, 199};
    private static final String[] PATTERNS = {"u-M-d", "H:m:s", "X", "uuuu-MM-dd'T'HH:mm[:ss][XXX]", "[u][H]", "EEE d MMM u",
        "", "uYuYuYuYuYuYuYuYuYuY", "SSSSSSSSS-".repeat(6), "MMMMEEEEMMMMEEEEMMMMEEEE" + "MMMMEEEE", "h a"};
    private static final String[] WISHES = {"", "u", "uMd", "Hms", "X", "MMM", "ha"};
    private static final int[] FAR_SLOTS = {-1, 6, Integer.MIN_VALUE, Integer.MAX_VALUE};
    private static final int[] FAR_STYLES = {-1, 3, Integer.MIN_VALUE, Integer.MAX_VALUE};

    private final Check check;
    private final Random random;
    private final SkeletonClock plain = new SkeletonClock();
    private final SkeletonClock asked = new SkeletonClock();
    private int calls = 0;
    private int typed = 0;
    private int printed = 0;

    private RefusalTest(Check check, long seed) {
        this.check = check;
        random = new Random(seed);
    }

    private void same(String call, long one, long other) {
        calls++;
        check.due(call, other, one);
    }

    private void refused(String call, long answer, long want) {
        calls++;
        check.due(call, answer, want);
    }

    private void refused(String call, boolean answer) {
        refused(call, answer ? 1L : 0L, 0L);
    }

    private int oneOf(int[] many) {
        return many[random.nextInt(many.length)];
    }

    private String oneOf(String[] many) {
        return many[random.nextInt(many.length)];
    }

    private void type(String text) {
        for (char c : text.toCharArray()) {
            boolean good = plain.type(c);
            typed += good ? 1 : 0;
            same("type " + c, good ? 1 : 0, asked.type(c) ? 1 : 0);
        }
    }

    private void ordinary() {
        int slot = random.nextInt(6);
        switch (random.nextInt(9)) {
            case 0, 1 -> {
                type(oneOf(PATTERNS));
                same("define", plain.define(slot), asked.define(slot));
                typed = 0;
            }
            case 2 -> {
                type(oneOf(WISHES));
                same("match", plain.match(), asked.match());
                typed = 0;
            }
            case 3 -> {
                long seconds = random.nextInt(3) == 0 ? -31557014135596800L : random.nextInt() * 100L;
                int parts = 1 + random.nextInt(7);
                same("moment", plain.moment(seconds, 5, 0, parts) ? 1 : 0, asked.moment(seconds, 5, 0, parts) ? 1 : 0);
            }
            case 4 -> {
                int answer = plain.print(slot);
                same("print", answer, asked.print(slot));
                printed = answer < 0 ? printed : answer;
            }
            case 5 -> {
                boolean good = plain.copy();
                same("copy", good ? 1 : 0, asked.copy() ? 1 : 0);
                typed = good ? printed : typed;
            }
            case 6 -> {
                int style = random.nextInt(3);
                int answer = plain.read(slot, style, false);
                same("read", answer, asked.read(slot, style, false));
                typed = answer == SkeletonClock.REFUSED ? typed : 0;
            }
            case 7 -> type("1");
            default -> same("take", plain.take() ? 1 : 0, asked.take() ? 1 : 0);
        }
    }

    private void alwaysRefused() {
        switch (random.nextInt(6)) {
            case 0 -> refused("type", asked.type((char) (random.nextBoolean() ? 31 : 127)));
            case 1 -> refused("define", asked.define(oneOf(FAR_SLOTS)), SkeletonClock.REFUSED);
            case 2 -> wrongMoment();
            case 3 -> refused("print", asked.print(oneOf(FAR_SLOTS)), SkeletonClock.REFUSED);
            case 4 -> refused("read", asked.read(oneOf(FAR_SLOTS), random.nextInt(3), true), SkeletonClock.REFUSED);
            default -> refused("read", asked.read(random.nextInt(6), oneOf(FAR_STYLES), true), SkeletonClock.REFUSED);
        }
    }

    private void wrongMoment() {
        refused("moment", asked.moment(0L, -1, 60, 1));
        refused("moment", asked.moment(0L, 1000000000, 60, 1));
        refused("moment", asked.moment(0L, 0, 1081, 1));
        refused("moment", asked.moment(0L, 0, -1081, 1));
        refused("moment", asked.moment(0L, 0, 60, 0));
        refused("moment", asked.moment(0L, 0, 60, 8));
        refused("moment", asked.moment(31556889832780800L, 0, 0, 1));
        refused("moment", asked.moment(Long.MIN_VALUE, 0, -1080, 1));
    }

    /** Calls that this state refuses, and those that only ask. */
    private void refusedNow() {
        if (typed == 60) {
            refused("type", asked.type('a'));
        }
        if (printed > 60) {
            refused("copy", asked.copy());
        }
        calls += 8;
        asked.charAt(random.nextInt(80) - 10);
        asked.field((char) random.nextInt(128));
        asked.distance();
        asked.parts();
        asked.seconds();
        asked.nano();
        asked.minutes();
        if (plain.parts() == 0) {
            refused("take", asked.take());
        }
    }

    /** Calls that change the text alone, which was and is empty. */
    private void refusedWithText() {
        if (typed != 0) {
            return;
        }
        calls += 4;
        Check.type(asked, random.nextBoolean() ? "q" : "u]");
        if (random.nextBoolean()) {
            refused("match", asked.match(), SkeletonClock.REFUSED);
        } else {
            calls++;
            check.due("define", asked.define(random.nextInt(6)) >= 0, true);
        }
    }

    private void samePage() {
        for (int p : PLACES) {
            same("charAt", plain.charAt(p), asked.charAt(p));
        }
    }

    private void lookAtEverything() {
        samePage();
        for (char letter : "uMdDEwYHhamsSXx".toCharArray()) {
            same("field " + letter, plain.field(letter), asked.field(letter));
        }
        check.due("what was read", Check.latest(asked), Check.latest(plain));
        same("distance", plain.distance(), asked.distance());
        same("the text", plain.define(0), asked.define(0));
        for (int slot = 0; slot < 6; slot++) {
            same("print", plain.print(slot), asked.print(slot));
        }
        samePage();
        same("match", plain.match(), asked.match());
        same("distance", plain.distance(), asked.distance());
        check.due("more than 512 calls", calls + 4 > MOST_CALLS, false);
    }

    private void run() {
        while (calls < MOST_CALLS - LAST_CALLS) {
            ordinary();
            alwaysRefused();
            refusedNow();
            refusedWithText();
        }
        lookAtEverything();
    }

    public static void main(String[] args) {
        Check check = new Check();
        check.sentence("A call that is refused changes nothing (but see define, match and read on the text).");
        for (long seed = 1; seed <= RUNS; seed++) {
            new RefusalTest(check, seed).run();
        }
        check.finish();
    }
}
