/** Promise 1: what a new object holds. */
public final class NewObjectTest {
    public static void main(String[] args) {
        SkeletonClock clock = new SkeletonClock();
        if (clock.distance() != SkeletonClock.NONE || clock.parts() != 0 || clock.seconds() != 0L) {
            System.out.println("a new object is not new");
            System.exit(1);
        }
    }
}
