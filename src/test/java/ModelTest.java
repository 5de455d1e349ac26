import java.util.ArrayList;
import java.util.List;
import java.util.Random;

/** Promises 1 to 16: long runs of calls, each answered by the class as by the model. */
public final class ModelTest {
    private static final int RUNS = 20000;
    // Behind the last of them every answer is free.
    private static final int CALLS = 512;
    private static final String[] RUNS_ALLOWED = ("u uu uuuu Y YY YYYY M MM MMM MMMM d dd w ww H HH h hh m mm s ss D DDD "
        + "EEE EEEE a S SS SSS SSSSSS SSSSSSSSS X XX XXX x xx xxx").split(" ");
    private static final String[] WHOLE = {"uuuu-MM-dd", "u-M-d", "uMMdd", "uuuuDDD", "u-D", "YYYY'W'wwEEE", "Y w EEEE",
        "HH:mm:ss", "Hmmss.SSS", "h:m a", "hhmma", "uuuu-MM-dd'T'HH:mm[:ss[.SSS]][XXX]", "EEE d MMM u, w Y D",
        "[u-M-d ]H[:m][X]", "H h a m s", "uu-MM-dd EEE", "dMMuu", "[[u-]M-]d", "u[-M[-d]][-D]", "HHmm[ss]X", "u-M-d H x"};
    private static final String LOOSE_CHARACTERS = " -:/.,'[]+0159TZzqMw@`{";

    private final Random random;
    private final SkeletonClock clock = new SkeletonClock();
    private final Model model = new Model();
    private final List<String> calls = new ArrayList<>();
    private boolean agreed = true;

    private ModelTest(long seed) {
        random = new Random(seed);
    }

    private void same(String call, long got, long want) {
        calls.add(call + " = " + got);
        if (agreed && calls.size() <= CALLS && got != want) {
            agreed = false;
            int from = Math.max(0, calls.size() - 80);
            System.out.println(String.join("\n", calls.subList(from, calls.size())) + ", due is " + want);
        }
    }

    private void same(String call, boolean got, boolean want) {
        same(call, got ? 1L : 0L, want ? 1L : 0L);
    }

    private void type(String text) {
        for (char c : text.toCharArray()) {
            same("type '" + c + "'", clock.type(c), model.type(c));
        }
    }

    private <T> T oneOf(T[] many) {
        return many[random.nextInt(many.length)];
    }

    private char looseCharacter() {
        if (random.nextInt(12) == 0) {
            return (char) random.nextInt(140);
        }
        return LOOSE_CHARACTERS.charAt(random.nextInt(LOOSE_CHARACTERS.length()));
    }

    private String randomPattern() {
        if (random.nextInt(3) == 0) {
            return oneOf(WHOLE);
        }
        StringBuilder pattern = new StringBuilder();
        int open = 0;
        int pieces = 1 + random.nextInt(random.nextInt(5) == 0 ? 24 : 9);
        for (int k = 0; k < pieces; k++) {
            int kind = random.nextInt(14);
            if (kind < 8) {
                pattern.append(oneOf(RUNS_ALLOWED));
            } else if (kind == 8) {
                pattern.append('[');
                open++;
            } else if (kind == 9 && (open > 0 || random.nextInt(20) == 0)) {
                pattern.append(']');
                open--;
            } else if (kind == 10) {
                pattern.append('\'').append(looseCharacter()).append('\'');
            } else {
                pattern.append("-:/ ".charAt(random.nextInt(4)));
            }
        }
        while (open > 0 && random.nextInt(40) != 0) {
            pattern.append(']');
            open--;
        }
        return random.nextInt(10) == 0 ? changed(pattern.toString()) : pattern.toString();
    }

    private String randomWish() {
        StringBuilder wish = new StringBuilder();
        int runs = random.nextInt(6);
        for (int k = 0; k < runs; k++) {
            wish.append(oneOf(RUNS_ALLOWED));
        }
        return wish.toString();
    }

    private String changed(String text) {
        StringBuilder changed = new StringBuilder(text);
        int p = random.nextInt(text.length() + 1);
        int kind = random.nextInt(4);
        if (kind == 0 || p == text.length()) {
            changed.insert(p, looseCharacter());
        } else if (kind == 1) {
            changed.deleteCharAt(p);
        } else if (kind == 2) {
            changed.setCharAt(p, (char) ('0' + random.nextInt(10)));
        } else {
            char c = changed.charAt(p);
            changed.setCharAt(p, Character.isUpperCase(c) ? Character.toLowerCase(c) : Character.toUpperCase(c));
        }
        return changed.toString();
    }

    private int slot() {
        return random.nextInt(30) == 0 ? random.nextInt(10) - 2 : random.nextInt(3);
    }

    private void setMoment() {
        long[] ranges = {86400L, 4000000000L, 200000000000L, 2000000000000L, 31556889832780799L, 31557014135596800L};
        long range = ranges[random.nextInt(ranges.length)];
        long seconds = random.nextInt(6) == 0 ? (random.nextBoolean() ? range : -range) + random.nextInt(130000) - 65000
            : random.nextLong() % range;
        if (random.nextInt(40) == 0) {
            seconds = random.nextLong();
        }
        int nano = random.nextInt(4) == 0 ? random.nextInt(10) * 100000000 : random.nextInt(1000000000);
        int minutes = random.nextInt(3) == 0 ? 0 : random.nextInt(40) == 0 ? random.nextInt(4000) - 2000
            : random.nextInt(37) * 60 - 1080 + random.nextInt(2) * 30;
        int parts = random.nextInt(3) != 0 ? 7 : random.nextInt(10) - 1;
        same("moment(" + seconds + ", " + nano + ", " + minutes + ", " + parts + ")",
            clock.moment(seconds, nano, minutes, parts), model.moment(seconds, nano, minutes, parts));
    }

    private void lookAtTheMoment() {
        for (char letter : "uYMdDEwHhamsSXxq".toCharArray()) {
            same("field " + letter, clock.field(letter), model.field(letter));
        }
    }

    private void lookAtWhatWasRead() {
        same("parts()", clock.parts(), model.parts());
        same("seconds()", clock.seconds(), model.seconds());
        same("nano()", clock.nano(), model.nano());
        same("minutes()", clock.minutes(), model.minutes());
    }

    private String page() {
        StringBuilder page = new StringBuilder();
        int code = clock.charAt(0);
        while (code != SkeletonClock.NONE) {
            same("charAt(" + page.length() + ")", code, model.charAt(page.length()));
            page.append((char) code);
            code = clock.charAt(page.length());
        }
        same("charAt(" + page.length() + ")", code, model.charAt(page.length()));
        return page.toString();
    }

    private void readBack() {
        int slot = slot();
        same("print(" + slot + ")", clock.print(slot), model.print(slot));
        String text = page();
        int kind = random.nextInt(4);
        if (kind == 0) {
            same("copy()", clock.copy(), model.copy());
        } else {
            int changes = random.nextInt(3);
            for (int k = 0; k < changes; k++) {
                text = changed(text);
            }
            type(text);
        }
        int by = random.nextInt(3) == 0 ? slot() : slot;
        int style = random.nextInt(25) == 0 ? random.nextInt(6) - 2 : random.nextInt(3);
        boolean loose = random.nextBoolean();
        same("read(" + by + ", " + style + ", " + loose + ")", clock.read(by, style, loose),
            model.read(by, style, loose));
        lookAtWhatWasRead();
    }

    private void step() {
        switch (random.nextInt(9)) {
            case 0, 1 -> {
                type(randomPattern());
                int slot = slot();
                same("define(" + slot + ")", clock.define(slot), model.define(slot));
            }
            case 2 -> {
                type(random.nextInt(5) == 0 ? changed(randomWish()) : randomWish());
                same("match()", clock.match(), model.match());
                same("distance()", clock.distance(), model.distance());
            }
            case 3, 4 -> setMoment();
            case 5 -> {
                same("take()", clock.take(), model.take());
                lookAtTheMoment();
            }
            default -> readBack();
        }
    }

    private boolean run() {
        while (agreed && calls.size() < CALLS) {
            step();
        }
        return agreed;
    }

    public static void main(String[] args) {
        for (long seed = 1; seed <= RUNS; seed++) {
            if (!new ModelTest(seed).run()) {
                System.out.println("the run with seed " + seed + " does not agree with the model");
                System.exit(1);
            }
        }
    }
}
