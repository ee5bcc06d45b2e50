import java.lang.reflect.InvocationTargetException;
import java.lang.reflect.Method;
import java.util.Set;
import java.util.TreeSet;

/**
 * Runs the tests of a class: its methods whose names begin with "promise" and two digits, or with "terms".
 * Each of them is given a run of its own, on a new object. If an argument is given, only the tests whose names
 * begin with it are run.
 */
final class Runner {
    private final Checks checks;
    private final Set<String> names = new TreeSet<>();

    private Runner(Class<?> tests) {
        checks = new Checks(tests.getSimpleName());
    }

    static void run(Class<?> tests, int firstPromise, int lastPromise, String[] arguments) {
        Runner runner = new Runner(tests);
        if (arguments.length > 0) {
            runner.runThose(tests, arguments[0]);
        } else {
            runner.runThose(tests, "");
            for (int promise = firstPromise; promise <= lastPromise; promise++) {
                runner.mustHaveTestsOf(String.format("promise%02d", promise));
            }
        }
        System.out.println(tests.getSimpleName() + ": " + runner.names.size() + " tests");
        runner.checks.end();
    }

    private void runThose(Class<?> tests, String begin) {
        for (Method method : tests.getDeclaredMethods()) {
            String name = method.getName();
            if ((name.startsWith("promise") || name.startsWith("terms")) && name.startsWith(begin)) {
                runOne(method);
            }
        }
    }

    private void runOne(Method test) {
        String name = test.getName();
        int before = checks.count();
        try {
            test.invoke(null, new Run(checks, name));
        } catch (InvocationTargetException thrown) {
            checks.that(name + " was ended by " + thrown.getCause(), false);
        } catch (IllegalAccessException | IllegalArgumentException unfit) {
            checks.that(name + " cannot be run: " + unfit, false);
        }
        if (checks.count() == before) {
            checks.that(name + " looks at no answer", false);
        }
        names.add(name);
    }

    private void mustHaveTestsOf(String promise) {
        checks.that("there is no test of " + promise, names.stream().anyMatch(name -> name.startsWith(promise)));
    }
}
