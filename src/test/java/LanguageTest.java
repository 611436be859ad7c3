import java.io.IOException;
import java.nio.file.Files;
import java.nio.file.Path;
import java.util.ArrayList;
import java.util.List;
import java.util.regex.Matcher;
import java.util.regex.Pattern;

/** The rules of LANGUAGE.md that can be seen in the text of the program. */
public final class LanguageTest {
    private static final Due DUE = new Due("LanguageTest");
    private static final String[] RULED_OUT = {
        "\\bimport\\b", "\\bpackage\\b", "\\bthrows?\\b", "\\btry\\b", "\\bcatch\\b", "\\bsynchronized\\b",
        "\\bassert\\b", "->", "::", "@\\w", "Exact\\b", "\\bequals\\b", "\\bhashCode\\b", "\\btoString\\b",
        "\\bnative\\b", "\\bvolatile\\b", "\\bprotected\\b", "\\bvar\\b", "\\bObject\\b", "\\bwhile\\b",
        "\\bSystem\\.(?!arraycopy\\b)", "\\bMath\\.(?!abs\\b|min\\b|max\\b)",
        "\\bInteger\\.(?!bitCount\\b)", "\\bLong\\.(?!MIN_VALUE\\b)",
        "static\\s*\\{", "[^\\x00-\\x7F]",
    };

    private static String withoutComments(String source) {
        return Pattern.compile("/\\*.*?\\*/|//[^\n]*", Pattern.DOTALL).matcher(source).replaceAll("");
    }

    /** Lines of the longest method: from an opening at the depth of members to the brace that closes it. */
    private static void methodsAreShort(String code) {
        List<Integer> begun = new ArrayList<>();
        String[] lines = code.split("\n");
        for (int at = 0; at < lines.length; at++) {
            for (char c : lines[at].toCharArray()) {
                if (c == '{') {
                    begun.add(at);
                } else if (c == '}' && !begun.isEmpty()) {
                    int from = begun.remove(begun.size() - 1);
                    boolean isClass = lines[from].contains(" class ");
                    DUE.holds("a body from line " + from + " on is short", isClass || at - from <= 60);
                }
            }
        }
        DUE.is("braces left open", begun.size(), 0);
    }

    private static void staticFieldsAreConstants(String code) {
        Matcher m = Pattern.compile("(?m)^\\s*(?:public |private )?static (?!final |class )(?:\\w|\\[|\\])+ \\w+\\s*[=;]")
                .matcher(code);
        DUE.holds("all static fields are final", !m.find());
    }

    private static void parametersAreFew(String code) {
        Matcher m = Pattern.compile("\\w+ \\w+\\(((?:(?:int|long|boolean|int\\[\\]|[A-Z]\\w*) \\w+(?:, )?)+)\\) \\{")
                .matcher(code);
        int seen = 0;
        while (m.find()) {
            seen++;
            DUE.holds("few parameters: " + m.group(), m.group(1).split(",").length <= 7);
        }
        DUE.holds("methods were seen", seen > 50);
    }

    public static void main(String[] args) throws IOException {
        String source = Files.readString(Path.of("src/main/java/LampWays.java"));
        String code = withoutComments(source);
        for (String word : RULED_OUT) {
            Matcher m = Pattern.compile(word).matcher(code);
            DUE.holds("the program has no " + word, !m.find());
        }
        Matcher classes = Pattern.compile("\\b(?:class|interface|enum|record) [A-Z]\\w*").matcher(code);
        DUE.holds("at most twelve classes", classes.results().count() <= 12);
        methodsAreShort(code);
        staticFieldsAreConstants(code);
        parametersAreFew(code);
        DUE.end();
    }
}
