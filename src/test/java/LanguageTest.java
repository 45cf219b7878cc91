import java.io.IOException;
import java.nio.file.Files;
import java.nio.file.Path;
import java.util.regex.Matcher;
import java.util.regex.Pattern;

/** What can be seen in the text of the program of the rules 1, 2, 4, 5, 6, 11 and 13 of LANGUAGE.md. */
public final class LanguageTest {
    private static final Check CHECK = new Check("LanguageTest");
    private static final String[] RULED_OUT = {
        "(?m)^\\s*package\\b", "\\bthrow\\b", "\\btry\\b", "\\bcatch\\b", "\\bsynchronized\\b", "\\bassert\\b",
        "::", "(?m)^(?!.*\\b(case|default)\\b).*->", "\\bnew \\w+\\([^()]*\\) *\\{", "\\bstatic *\\{",
        "\\w+Exact\\b", "\\bhashCode\\b", "\\bSystem\\.(?!arraycopy\\b)", "\\bArrays\\.(?!fill\\b|copyOf\\b|copyOfRange\\b)",
        "\\bimport (?!java\\.util\\.(Arrays|ArrayList|List|Iterator);)", "(?<!import )\\bjava\\.", "\\bThread\\b",
        "\\bRuntime\\b", "\\brandom\\b", "\\[\\]\\s*\\[\\]\\s*\\[\\]"
    };
    /** The rule says some sixty. */
    private static final int LONGEST = 65;

    public static void main(String[] args) throws IOException {
        String text = Files.readString(Path.of("src/main/java/CountedActors.java"));
        String code = text.replaceAll("(?s)/\\*.*?\\*/", "").replaceAll("//[^\\n]*", "")
            .replaceAll("\"(\\\\.|[^\"\\\\])*\"", "\"\"").replaceAll("'(\\\\.|[^'\\\\])+'", "' '");
        CHECK.due("the class is there", code.contains("public final class CountedActors"), true);
        for (String word : RULED_OUT) {
            Matcher found = Pattern.compile(word).matcher(code);
            CHECK.due("whether " + word + " stands in the program", found.find(), false);
        }
        methodsAreShort(code);
        CHECK.finish();
    }

    /** A method is what stands between a line with its head and the line that closes it as deep. */
    private static void methodsAreShort(String code) {
        String[] lines = code.split("\n");
        for (int i = 0; i < lines.length; i++) {
            Matcher head = Pattern.compile("^( {4}| {8})[^ =;][^=;]*\\((.*)\\) \\{$").matcher(lines[i]);
            boolean isMethod = head.matches() && !lines[i].matches(" +(\\} else )?(if|for|switch|while)\\b.*");
            if (!isMethod) {
                continue;
            }
            int end = i;
            while (end < lines.length && !lines[end].equals(head.group(1) + "}")) {
                end++;
            }
            CHECK.due("whether it is short:" + lines[i], end - i <= LONGEST, true);
            CHECK.due("whether it takes at most seven:" + lines[i], head.group(2).split(",").length <= 7, true);
        }
    }
}
