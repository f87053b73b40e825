import java.io.IOException;
import java.nio.file.Files;
import java.nio.file.Path;
import java.util.regex.Matcher;
import java.util.regex.Pattern;

/** What of ../shared/LANGUAGE.md can be seen in the words of the program. */
public final class LanguageTest {
    private static final String[] RULED_OUT = {
        "\\bimport\\b", "\\bpackage\\b", "->", "::", "\\bfinally\\b", "\\bsynchronized\\b", "\\bassert\\b",
        "\\btry\\b", "\\bcatch\\b", "\\bFloat\\.", "\\bDouble\\.", "\\bInteger\\.", "Exact\\b", "\\bSystem\\.",
        "\\bthrow\\b", "\\bprotected\\b", "\\bnull\\b", "\\bvar\\b", "\\btoString\\b", "\\bhashCode\\b",
        "\\bequals\\b", "static\\s*\\{"
    };

    public static void main(String[] args) throws IOException {
        Checks checks = new Checks();
        String source = Files.readString(Path.of("src/main/java/LinkNames.java"));
        String code = source.replaceAll("(?s)/\\*.*?\\*/", "").replaceAll("//[^\n]*", "");
        for (String words : RULED_OUT) {
            checks.holds("the program has no " + words, !Pattern.compile(words).matcher(code).find());
        }
        checks.holds("signs 1 to 126 alone", source.chars().allMatch(c -> c == '\n' || c >= 32 && c <= 126));
        checks.holds("at most twelve classes", count("\\bclass\\b", code) <= 12);
        checks.holds("no static field that is not final", !Pattern.compile(
                "static (?!final|boolean \\w+\\(|int \\w+\\()").matcher(code).find());
        objectsAreMadeInConstructorsOnly(checks, code);
        checks.end("LanguageTest");
    }

    private static int count(String words, String code) {
        Matcher matcher = Pattern.compile(words).matcher(code);
        int found = 0;
        while (matcher.find()) {
            found++;
        }
        return found;
    }

    /** So no number of calls makes the room too small. */
    private static void objectsAreMadeInConstructorsOnly(Checks checks, String code) {
        String withoutConstructors = code.replaceAll("(?s)\n( +)(public )?[A-Z]\\w*\\(\\) \\{\n.*?\n\\1\\}", "");
        checks.holds("some constructor was seen", withoutConstructors.length() < code.length());
        checks.holds("no call makes an object", count("\\bnew\\b", withoutConstructors) == 0);
    }
}
