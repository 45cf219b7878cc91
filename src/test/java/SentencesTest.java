import java.io.IOException;
import java.lang.reflect.Method;
import java.nio.file.DirectoryStream;
import java.nio.file.Files;
import java.nio.file.Path;
import java.util.ArrayList;
import java.util.List;

/**
 * Each sentence of the document's terms and promises has a test of its own among the Edge tests, and
 * what these tests hold the program to does stand in the document.
 */
public final class SentencesTest {
    private static final Check CHECK = new Check("SentencesTest");
    private static final Path DOCUMENT = Path.of("../shared/DOC.md");
    private static final Path TESTS = Path.of("src/test/java");
    /** It tells what the rest is for, and names no case. */
    private static final String INTRODUCTION = "Behaviours are looked through, statement by statement, before they may run; "
        + "messages wait in order; and objects are freed, also when several actors held them, "
        + "by counts that travel in messages and never stop all actors.";

    public static void main(String[] args) throws IOException, ClassNotFoundException {
        if (!Files.exists(DOCUMENT)) {
            System.out.println("SentencesTest: " + DOCUMENT + " is not here to be compared with");
            return;
        }
        String document = oneLine(Files.readString(DOCUMENT));
        String rest = document.substring(document.indexOf("## Terms"), document.indexOf("## Not promised"));
        rest = rest.replaceAll("## Terms|## Promise [0-9]+: [a-zA-Z ]+(?=`)", "|").replace(INTRODUCTION, "|");
        for (String sentence : sentencesOfTests()) {
            CHECK.due("whether the document says: " + sentence, document.contains(sentence), true);
            rest = rest.replace(sentence, "|");
        }
        for (String piece : rest.split("[|]")) {
            CHECK.due("whether a test is missing for: " + piece, piece.matches(".*[a-zA-Z].*"), false);
        }
        CHECK.finish();
    }

    private static String oneLine(String text) {
        return text.replaceAll("(?m)^```.*$", " ").replaceAll("\\s+", " ").trim();
    }

    /** The longest first, so that none is cut up by another that stands in it. */
    private static List<String> sentencesOfTests() throws IOException, ClassNotFoundException {
        List<String> sentences = new ArrayList<>();
        try (DirectoryStream<Path> files = Files.newDirectoryStream(TESTS, "Edge*Test.java")) {
            for (Path file : files) {
                String name = file.getFileName().toString().replace(".java", "");
                for (Method test : Sentences.testsOf(Class.forName(name))) {
                    for (String sentence : test.getAnnotation(Sentence.class).value()) {
                        sentences.add(oneLine(sentence));
                    }
                }
            }
        }
        sentences.sort((s, t) -> t.length() - s.length());
        return sentences;
    }
}
