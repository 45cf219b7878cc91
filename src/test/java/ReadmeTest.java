import java.io.IOException;
import java.lang.reflect.Method;
import java.lang.reflect.Modifier;
import java.nio.file.Files;
import java.nio.file.Path;
import java.util.List;
import java.util.stream.Stream;

/** README.md: its example answers what it says, and each call and each test is named there. */
public final class ReadmeTest {
    private static final Check CHECK = new Check("ReadmeTest");

    public static void main(String[] args) throws IOException {
        String readme = Files.readString(Path.of("README.md"));
        CHECK.due("it says how the tests are run", readme.contains("\n.ci/run\n"), true);
        namesEachCall(readme);
        namesEachTest(readme);
        example(readme);
        CHECK.finish();
    }

    private static void namesEachCall(String readme) {
        for (Method m : CountedActors.class.getDeclaredMethods()) {
            if (Modifier.isPublic(m.getModifiers())) {
                CHECK.due("it names " + m.getName(), readme.contains("`" + m.getName() + "("), true);
            }
        }
    }

    private static void namesEachTest(String readme) throws IOException {
        try (Stream<Path> files = Files.list(Path.of("src/test/java"))) {
            for (Path file : (Iterable<Path>) files::iterator) {
                String name = file.getFileName().toString().replace(".java", "");
                if (name.endsWith("Test")) {
                    CHECK.due("it names " + name, readme.matches("(?s).*[| ]" + name + "[, ].*"), true);
                }
            }
        }
    }

    /** The calls of the example stand here a second time; the README must have just these. */
    private static void example(String readme) {
        CountedActors m = new CountedActors(2);
        CHECK.due("m.begin(0)", m.begin(0), 0);
        CHECK.due("m.add(5, 1, 6, 0, 0)", m.add(5, 1, 6, 0, 0), 0);
        CHECK.due("m.end()", m.end(), true);
        CHECK.due("m.begin(5)", m.begin(5), 1);
        CHECK.due("m.add(0, 1, 0, 0, 0)", m.add(0, 1, 0, 0, 0), 0);
        CHECK.due("m.add(6, 0, 1, 0, 5)", m.add(6, 0, 1, 0, 5), 0);
        CHECK.due("m.add(8, 1, 0, 0, 1)", m.add(8, 1, 0, 0, 1), 0);
        CHECK.due("m.end()", m.end(), true);
        CHECK.due("m.post(0, 1)", m.post(0, 1), true);
        CHECK.due("m.step(0)", m.step(0), 0);
        CHECK.due("m.step(1)", m.step(1), 0);
        CHECK.due("m.field(1, 0)", m.field(1, 0), 0);
        CHECK.due("m.cell(0)", m.cell(0), 5);
        List<String> calls = List.of("m.begin(0)", "m.add(5, 1, 6, 0, 0)", "m.end()", "m.begin(5)",
            "m.add(0, 1, 0, 0, 0)", "m.add(6, 0, 1, 0, 5)", "m.add(8, 1, 0, 0, 1)", "m.end()", "m.post(0, 1)",
            "m.step(0)", "m.step(1)", "m.field(1, 0)", "m.cell(0)");
        List<String> told = readme.lines().filter(line -> line.startsWith("m."))
            .map(line -> line.substring(0, line.indexOf(';'))).toList();
        CHECK.due("the example has these calls", told.equals(calls), true);
    }
}
