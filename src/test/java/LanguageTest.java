import java.io.IOException;
import java.nio.file.Files;
import java.nio.file.Path;
import java.util.regex.Matcher;
import java.util.regex.Pattern;

/** What can be seen in the text of the program of the rules 2, 3, 4, 6, 11 and 13 of LANGUAGE.md. */
public final class LanguageTest {
    private static final Check CHECK = new Check("LanguageTest");
    private static final String[] RULED_OUT = {
        "\\bthrow\\b", "\\bthrows\\b", "\\btry\\b", "\\bcatch\\b", "\\bsynchronized\\b", "\\bassert\\b", "\\bvolatile\\b",
        "\\bpackage\\b", "\\bprotected\\b", "->", "::", "\"", "\\bvar\\b", "\\bThread\\b", "\\bRandom\\b", "\\bObject\\b",
        "\\bMap\\b", "\\bSet\\b", "Exact\\b", "\\bdouble\\b", "\\bfloat\\b", "\\bhashCode\\b", "\\btoString\\b",
        "\\bequals\\b", "\\bSystem\\.(?!arraycopy\\b)", "\\bArrays\\.(?!fill\\b|copyOf\\b|copyOfRange\\b)",
        "\\bimport (?!java\\.util\\.Arrays;)", "\\[\\]\\s*\\[\\]", "\\bwhile\\b"
    };

    public static void main(String[] args) throws IOException {
        String text = Files.readString(Path.of("src/main/java/CountedActors.java"));
        String code = text.replaceAll("(?s)/\\*.*?\\*/", "").replaceAll("//[^\\n]*", "");
        CHECK.due("the class is there", code.contains("public final class CountedActors"), true);
        for (String word : RULED_OUT) {
            Matcher found = Pattern.compile(word).matcher(code);
            CHECK.due("whether " + word + " stands in the program", found.find(), false);
        }
        methodsAreShort(code);
        CHECK.due("whether all is ASCII", text.chars().allMatch(c -> c < 128), true);
        CHECK.finish();
    }

    /** A method is what stands between a line with its head and the line that closes it as deep. */
    private static void methodsAreShort(String code) {
        String[] lines = code.split("\n");
        for (int i = 0; i < lines.length; i++) {
            Matcher head = Pattern.compile("^( {4}| {8})[^ =;][^=;]*\\((.*)\\) \\{$").matcher(lines[i]);
            boolean isMethod = head.matches() && !lines[i].matches(" +(\\} else )?(if|for|switch|while)\\b.*");
            if (!isMethod) {
                continue;
            }
            int end = i;
            while (end < lines.length && !lines[end].equals(head.group(1) + "}")) {
                end++;
            }
            CHECK.due("whether it is short:" + lines[i], end - i < 60, true);
            CHECK.due("whether it takes at most seven:" + lines[i], head.group(2).split(",").length <= 7, true);
        }
    }
}
