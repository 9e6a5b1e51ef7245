import java.lang.reflect.InvocationTargetException;
import java.lang.reflect.Method;
import java.util.ArrayList;
import java.util.Comparator;
import java.util.List;

/** Runs all tests of a class that hold a sentence, so that none is forgotten in a list of calls. */
final class Sentences {
    private Sentences() {
    }

    static void runAll(Class<?> place) {
        List<Method> tests = testsOf(place);
        if (tests.isEmpty()) {
            Due.fail("no test in " + place);
        }
        for (Method test : tests) {
            run(test);
        }
        System.out.println(tests.size() + " tests of " + place.getName());
        Due.end();
    }

    private static List<Method> testsOf(Class<?> place) {
        List<Method> tests = new ArrayList<>();
        for (Method method : place.getDeclaredMethods()) {
            if (method.isAnnotationPresent(Holds.class)) {
                tests.add(method);
            }
        }
        tests.sort(Comparator.comparing((Method test) -> test.getAnnotation(Holds.class).promise())
            .thenComparing(Method::getName));
        return tests;
    }

    private static void run(Method test) {
        Holds holds = test.getAnnotation(Holds.class);
        String place = holds.promise() == 0 ? "Terms" : "Promise " + holds.promise();
        Due.under(place + ", \"" + holds.sentence() + "\", " + test.getName());
        try {
            test.invoke(null);
        } catch (InvocationTargetException e) {
            Due.fail("ended with " + e.getCause());
        } catch (IllegalAccessException e) {
            Due.fail("could not be run");
        }
    }
}
