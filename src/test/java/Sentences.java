import java.io.IOException;
import java.lang.reflect.InvocationTargetException;
import java.lang.reflect.Method;
import java.nio.file.Files;
import java.nio.file.Path;
import java.util.ArrayList;
import java.util.Comparator;
import java.util.List;

/** Runs the tests of a class that are each for one sentence, and names the sentence where one fails. */
final class Sentences {
    private static final Path DOCUMENT = Path.of("../shared/DOC.md");

    private Sentences() {
    }

    static void runAll(Class<?> tests) throws Exception {
        String document = textOf(DOCUMENT);
        for (Method test : testsOf(tests)) {
            Sentence sentence = test.getAnnotation(Sentence.class);
            String name = sentence.promise() + " \"" + sentence.says() + "\" " + test.getName();
            // A note alone: a document that was changed must not keep back what holds to the old one.
            if (!document.contains(" " + sentence.says())) {
                System.out.println("note: this stands no longer in the document: " + name);
            }
            runOne(name, test);
        }
        Check.end();
    }

    static List<Method> testsOf(Class<?> tests) {
        List<Method> found = new ArrayList<>();
        for (Method method : tests.getDeclaredMethods()) {
            if (method.isAnnotationPresent(Sentence.class)) {
                found.add(method);
            }
        }
        found.sort(Comparator.comparingInt((Method m) -> m.getAnnotation(Sentence.class).promise())
            .thenComparing(Method::getName));
        return found;
    }

    private static void runOne(String name, Method test) throws IllegalAccessException {
        Check.under(name);
        try {
            test.invoke(null);
        } catch (InvocationTargetException e) {
            Check.complain("the test was broken off by " + e.getCause());
        }
    }

    /** The text with one space for each gap, so that a sentence is found across the ends of lines. */
    private static String textOf(Path file) throws IOException {
        return Files.exists(file) ? Files.readString(file).replaceAll("\\s+", " ") : "";
    }
}
