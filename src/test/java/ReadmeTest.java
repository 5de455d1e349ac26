import java.io.IOException;
import java.nio.file.Files;
import java.nio.file.Path;
import java.util.List;
import java.util.regex.Matcher;
import java.util.regex.Pattern;

/** The example of README.md: the answers that stand behind its calls are those of the class. */
public final class ReadmeTest {
    private static final Pattern CALL = Pattern.compile(" *(clock\\.\\w+\\(.*\\));\\s+// (-?\\w+).*");
    private static final Pattern TYPING = Pattern.compile("for \\(char c : \"(.*)\"\\.toCharArray\\(\\)\\) \\{");
    private static final SkeletonClock clock = new SkeletonClock();
    private static String text = "";

    private static List<String> example() throws IOException {
        String readme = Files.readString(Path.of("README.md"));
        int start = readme.indexOf("```java\n") + 8;
        return readme.substring(start, readme.indexOf("```", start)).lines().toList();
    }

    private static boolean typed() {
        boolean all = true;
        for (char c : text.toCharArray()) {
            all &= clock.type(c);
        }
        return all;
    }

    private static String answer(String call) {
        return switch (call) {
            case "clock.type(c)" -> String.valueOf(typed());
            case "clock.define(0)" -> String.valueOf(clock.define(0));
            case "clock.moment(1700000000L, 0, 90, 7)" -> String.valueOf(clock.moment(1700000000L, 0, 90, 7));
            case "clock.field('E')" -> String.valueOf(clock.field('E'));
            case "clock.print(0)" -> String.valueOf(clock.print(0));
            case "clock.charAt(10)" -> String.valueOf(clock.charAt(10));
            case "clock.copy()" -> String.valueOf(clock.copy());
            case "clock.read(0, 0, false)" -> String.valueOf(clock.read(0, 0, false));
            case "clock.parts()" -> String.valueOf(clock.parts());
            case "clock.seconds()" -> String.valueOf(clock.seconds());
            case "clock.nano()" -> String.valueOf(clock.nano());
            case "clock.minutes()" -> String.valueOf(clock.minutes());
            case "clock.take()" -> String.valueOf(clock.take());
            case "clock.match()" -> String.valueOf(clock.match());
            case "clock.distance()" -> String.valueOf(clock.distance());
            default -> "a call that this test does not know";
        };
    }

    public static void main(String[] args) throws IOException {
        Check check = new Check();
        int calls = 0;
        for (String line : example()) {
            Matcher typing = TYPING.matcher(line);
            Matcher call = CALL.matcher(line);
            if (typing.matches()) {
                text = typing.group(1);
            } else if (call.matches()) {
                calls++;
                check.due(call.group(1), answer(call.group(1)), call.group(2));
            }
        }
        check.due("calls of the example", calls, 16);
        check.due("the page", Check.page(clock), "2023-11-14T23:43:20+01:30");
        check.finish();
    }
}
