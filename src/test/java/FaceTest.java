import java.lang.reflect.Constructor;
import java.lang.reflect.Field;
import java.lang.reflect.Method;
import java.lang.reflect.Modifier;
import java.util.Arrays;
import java.util.TreeSet;

/** The public face of the document: these members and no others, and the constants' values. */
public final class FaceTest {
    private static final String[] METHODS = {
        "public boolean SkeletonClock.copy()",
        "public boolean SkeletonClock.moment(long,int,int,int)",
        "public boolean SkeletonClock.take()",
        "public boolean SkeletonClock.type(char)",
        "public int SkeletonClock.charAt(int)",
        "public int SkeletonClock.define(int)",
        "public int SkeletonClock.distance()",
        "public int SkeletonClock.field(char)",
        "public int SkeletonClock.match()",
        "public int SkeletonClock.minutes()",
        "public int SkeletonClock.nano()",
        "public int SkeletonClock.parts()",
        "public int SkeletonClock.print(int)",
        "public int SkeletonClock.read(int,int,boolean)",
        "public long SkeletonClock.seconds()"};

    public static void main(String[] args) {
        Check check = new Check();
        check.due("NONE", SkeletonClock.NONE, -1);
        check.due("REFUSED", SkeletonClock.REFUSED, -2);
        check.due("CLASH", SkeletonClock.CLASH, 100);
        TreeSet<String> open = new TreeSet<>();
        for (Method method : SkeletonClock.class.getDeclaredMethods()) {
            if (!Modifier.isPrivate(method.getModifiers())) {
                open.add(method.toString());
            }
        }
        check.due("methods", open.toString(), new TreeSet<>(Arrays.asList(METHODS)).toString());
        TreeSet<String> fields = new TreeSet<>();
        for (Field field : SkeletonClock.class.getDeclaredFields()) {
            if (!Modifier.isPrivate(field.getModifiers())) {
                fields.add(field.toString());
            }
        }
        check.due("constants", fields.toString(), "[public static final int SkeletonClock.CLASH, "
            + "public static final int SkeletonClock.NONE, public static final int SkeletonClock.REFUSED]");
        Constructor<?>[] constructors = SkeletonClock.class.getDeclaredConstructors();
        check.due("constructors", Arrays.toString(constructors), "[public SkeletonClock()]");
        check.due("final", Modifier.isFinal(SkeletonClock.class.getModifiers()), true);
        check.finish();
    }
}
