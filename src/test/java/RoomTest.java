import java.lang.management.ManagementFactory;

/** A run of 512 calls makes next to nothing anew: all its rows are made with the object. */
public final class RoomTest {
    private static final int RUNS = 2000;
    private static final long MOST_BYTES_A_RUN = 16000L;

    private static int run() {
        SkeletonClock clock = new SkeletonClock();
        int sum = 0;
        for (int turn = 0; turn < 12; turn++) {
            String pattern = turn % 2 == 0 ? "uuuu-MM-dd[ H[:mm[:ss]]]" : "EEEE, d MMMM u";
            for (int p = 0; p < pattern.length(); p++) {
                sum += clock.type(pattern.charAt(p)) ? 1 : 0;
            }
            sum += clock.define(turn % 6);
            sum += clock.moment(turn * 86399999L, turn, turn, 7) ? 1 : 0;
            sum += clock.print(turn % 6);
            sum += clock.copy() ? 1 : 0;
            sum += clock.read(turn % 6, turn % 3, true);
            sum += clock.take() ? 1 : 0;
            clock.type('d');
            sum += clock.match() + clock.distance() + clock.field('u') + clock.charAt(3);
            sum += clock.parts() + clock.nano() + clock.minutes() + (int) clock.seconds();
        }
        return sum;
    }

    public static void main(String[] args) {
        var threads = (com.sun.management.ThreadMXBean) ManagementFactory.getThreadMXBean();
        long sum = run();
        long before = threads.getCurrentThreadAllocatedBytes();
        for (int k = 0; k < RUNS; k++) {
            sum += run();
        }
        long bytes = (threads.getCurrentThreadAllocatedBytes() - before) / RUNS;
        if (bytes > MOST_BYTES_A_RUN) {
            System.out.println("a run makes " + bytes + " bytes of objects, at most " + MOST_BYTES_A_RUN + " are due");
            System.exit(1);
        }
        System.out.println(bytes + " bytes a run, answers adding up to " + sum);
    }
}
