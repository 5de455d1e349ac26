import java.io.IOException;
import java.nio.file.Files;
import java.nio.file.Path;
import java.util.regex.Matcher;
import java.util.regex.Pattern;

/** Some of the rules of LANGUAGE.md that can be seen in the text of the class. */
public final class LanguageTest {
    private static final String[] FORBIDDEN = {"\\bthrow\\b", "\\btry\\b", "\\bcatch\\b", "\\bsynchronized\\b",
        "\\bassert\\b", "\\bimport\\b", "\\bpackage\\b", "->", "::", "\\bSystem\\b", "\\bprotected\\b", "\\bObject\\b",
        "\\bException\\b", "Exact\\(", "\\bstatic\\s*\\{", "\\bhashCode\\b", "\\btoString\\b", "\\bnew\\s+Thread\\b",
        "\"\\s*\\+", "\\+\\s*\""};
    private static final String FACE =
        "type|define|match|distance|moment|field|print|charAt|copy|read|parts|seconds|nano|minutes|take";
    private static final int MOST_LINES = 60;
    private static final int MOST_CLASSES = 12;
    private static final int MOST_PARAMETERS = 7;

    private static int wrong = 0;

    private static void say(String fault) {
        wrong++;
        System.out.println(fault);
    }

    private static String withoutComments(String source) {
        return source.replaceAll("(?s)/\\*.*?\\*/", "").replaceAll("//[^\n]*", "");
    }

    private static void forbidden(String code) {
        for (String word : FORBIDDEN) {
            if (Pattern.compile(word).matcher(code).find()) {
                say("the class has " + word);
            }
        }
        Matcher loose = Pattern.compile("(?m)^    (?!    )(?!public |private |\\}|static final class )\\S.*").matcher(code);
        while (loose.find()) {
            say("neither public nor private: " + loose.group().trim());
        }
        Matcher state = Pattern.compile("(?m)^\\s*(?:private )?static (?!final |boolean |int |long |String |char |void )\\S.*")
            .matcher(code);
        while (state.find()) {
            say("static, but neither final nor a method: " + state.group().trim());
        }
    }

    private static void methods(String code) {
        Matcher method = Pattern.compile("(?ms)^( +)(public |private )?(static )?[\\w\\[\\]]+ (\\w+)\\(([^)]*)\\) \\{\n.*?^\\1\\}")
            .matcher(code);
        int count = 0;
        while (method.find()) {
            count++;
            boolean isPublic = "public ".equals(method.group(2));
            if (!isPublic && method.group(4).matches(FACE)) {
                say("a method that is not of the face has a name of it: " + method.group(4));
            }
            if (method.group().lines().count() > MOST_LINES) {
                say("too long: " + method.group(4));
            }
            if (method.group(5).split(",").length > MOST_PARAMETERS) {
                say("too many parameters: " + method.group(4));
            }
        }
        if (count < 15) {
            say("only " + count + " methods were looked at");
        }
    }

    public static void main(String[] args) throws IOException {
        String code = withoutComments(Files.readString(Path.of("src/main/java/SkeletonClock.java")));
        forbidden(code);
        methods(code);
        long classes = Pattern.compile("\\bclass \\w+ \\{").matcher(code).results().count();
        if (classes > MOST_CLASSES) {
            say(classes + " classes");
        }
        System.exit(wrong == 0 ? 0 : 1);
    }
}
