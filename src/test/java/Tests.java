import java.lang.reflect.InvocationTargetException;
import java.lang.reflect.Method;
import java.util.ArrayList;
import java.util.Arrays;
import java.util.Comparator;
import java.util.List;

/** Runs each test of a class: its functions whose names begin with a promise's, a part's or the use's number. */
final class Tests {
    private Tests() {
    }

    static void run(Class<?> tests) throws IllegalAccessException {
        List<Method> found = new ArrayList<>(Arrays.asList(tests.getDeclaredMethods()));
        found.removeIf(m -> !m.getName().matches("(promise\\d\\d|part\\d|use512)[A-Z].*"));
        found.sort(Comparator.comparing(Method::getName));
        Due.is("some tests in " + tests.getSimpleName(), found.isEmpty() ? 0 : 1, 1);
        for (Method test : found) {
            Due.begin(test.getName());
            test.setAccessible(true);
            try {
                test.invoke(null);
            } catch (InvocationTargetException e) {
                Due.same("the test", "threw " + e.getCause(), "ended");
            }
        }
        Due.begin("");
        Due.end(tests.getSimpleName());
    }
}
