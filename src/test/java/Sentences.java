import java.lang.reflect.InvocationTargetException;
import java.lang.reflect.Method;
import java.util.ArrayList;
import java.util.Comparator;
import java.util.List;

/** Runs the tests of a class that each have a sentence of the document. */
final class Sentences {
    private Sentences() {
    }

    static List<Method> testsOf(Class<?> owner) {
        List<Method> tests = new ArrayList<>();
        for (Method m : owner.getDeclaredMethods()) {
            if (m.isAnnotationPresent(Sentence.class)) {
                tests.add(m);
            }
        }
        tests.sort(Comparator.comparing(Method::getName));
        return tests;
    }

    /** Each test has to ask something, and a test that breaks off does not keep the others from running. */
    static void runAll(Class<?> owner, Check check) {
        for (Method test : testsOf(owner)) {
            check.about(test.getName());
            int before = check.asked();
            run(test, check);
            check.due("whether the test asked anything", check.asked() > before, true);
        }
        check.finish();
    }

    private static void run(Method test, Check check) {
        try {
            test.setAccessible(true);
            test.invoke(null);
        } catch (InvocationTargetException broken) {
            broken.getCause().printStackTrace(System.out);
            check.due("whether the test broke off", true, false);
        } catch (IllegalAccessException unlikely) {
            throw new IllegalStateException(unlikely);
        }
    }
}
