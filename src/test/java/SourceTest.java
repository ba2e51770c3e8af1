import java.io.IOException;
import java.nio.file.Files;
import java.nio.file.Path;
import java.util.regex.Matcher;
import java.util.regex.Pattern;

/** The rules of LANGUAGE.md that can be seen in the program's text; run from the project's folder. */
public final class SourceTest {
    private static final String[] FORBIDDEN = {"(?m)^(?!\\s*(case|default)\\b).*->", "::", "\\bsynchronized\\b", "\\bassert\\b", "\\bfinally\\b", "\\bprotected\\b",
        "\\bpackage\\b", "\\bnative\\b", "\\bThread\\b", "\\bSystem\\.(?!arraycopy)",
        "\\bjava\\.(?!util\\.(ArrayList|List|Arrays|Iterator|NoSuchElementException)\\b)",
        "\\bNaN\\b", "\\bhashCode\\b", "static\\s*\\{", "\\bstatic (?!final)\\w+(\\[\\])* \\w+( =|;)"};

    public static void main(String[] args) throws IOException {
        String text = Files.readString(Path.of("src/main/java/PlainOrigin.java"));
        String code = text.replaceAll("/\\*(?s:.*?)\\*/|//[^\n]*", "").replaceAll("\"(\\\\.|[^\"\\\\])*\"", "\"\"");
        for (String rule : FORBIDDEN) {
            Matcher found = Pattern.compile(rule).matcher(code);
            Client.due("what rule " + rule + " finds", found.find() ? found.group() : "nothing", "nothing");
        }
        int longest = longestMethod(code);
        Client.due("methods stay short", longest > 20 && longest <= 60, true);
        Client.due("characters 0 to 255 alone", text.chars().allMatch(c -> c < 256), true);
        Client.finish();
    }

    private static int longestMethod(String code) {
        int longest = 0;
        Matcher method = Pattern.compile("(?m)^( {4}| {8})(?!.*\\b(class|enum)\\b)\\S.*\\) ?.*\\{\n(?s:.*?)^\\1\\}").matcher(code);
        while (method.find()) {
            longest = Math.max(longest, (int) method.group().lines().count());
        }
        return longest;
    }
}
