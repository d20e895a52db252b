import java.io.IOException;
import java.nio.file.Files;
import java.nio.file.Paths;
import java.util.regex.Matcher;
import java.util.regex.Pattern;

/** Some rules of LANGUAGE.md that the text of the program can show to be broken. */
public final class LanguageTest {
    private static final String[] FORBIDDEN = {
        "\\bimport\\b", "\\bpackage\\b", "->", "::", "\\bcatch\\b", "\\bfinally\\b",
        "\\bsynchronized\\b", "\\bassert\\b", "Exact\\b", "\\bSystem\\.(?!arraycopy)",
        "\\bThread\\b", "\\bRandom\\b", "\\bString\\b", "\\bequals\\b", "\\bhashCode\\b",
        "\\btoString\\b", "\\bstatic\\s*\\{", "\\bstatic\\s+(?!final)\\w+(\\[\\])?\\s+\\w+\\s*[=;]",
        "\\bMath\\.(?!max\\(|min\\()", "\\bpublic\\s+static\\s+(?!final int NONE)",
        "[^\\x00-\\x7F]",
    };
    private static final int LONGEST_METHOD = 60;
    private static final Pattern HEAD = Pattern.compile("^ {4}(?: {4})?(?! )[^;=/*]*\\([^;=]*$");

    public static void main(String[] args) throws IOException {
        String text = Files.readString(Paths.get("src/main/java/OreRailway.java"));
        String code = text.replaceAll("(?s)/\\*.*?\\*/", "").replaceAll("//[^\n]*", "");
        for (String forbidden : FORBIDDEN) {
            Matcher matcher = Pattern.compile(forbidden).matcher(code);
            Check.holds("forbidden: " + forbidden, !matcher.find());
        }
        Check.holds("no text is joined by +", !Pattern.compile("\"\\s*\\+|\\+\\s*\"").matcher(code).find());
        methodsAreShort(text.split("\n"));
        Check.end();
    }

    private static void methodsAreShort(String[] lines) {
        int start = -1;
        String end = "";
        int methods = 0;
        for (int i = 0; i < lines.length; i++) {
            if (start < 0 && HEAD.matcher(lines[i]).matches()) {
                start = i;
                end = lines[i].substring(0, lines[i].length() - lines[i].stripLeading().length())
                        + "}";
            } else if (start >= 0 && lines[i].equals(end)) {
                methods++;
                Check.holds("long: " + lines[start], i - start < LONGEST_METHOD);
                start = -1;
            }
        }
        Check.holds("methods seen: " + methods, methods > 26);
    }
}
