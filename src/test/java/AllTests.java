import java.lang.reflect.Method;
import java.util.Arrays;
import java.util.Comparator;

/** Runs every test method of the project: those whose names begin with "promise", "term", "rule", "readme" or "runs". */
public final class AllTests {
    private static final int PROMISES = 34;
    private static final Class<?>[] TESTS = {
        PedalPromises.class, TextPromises.class, LookPromises.class, BarPromises.class, HistoryPromises.class,
        TermEdges.class, PedalEdges.class, TextEdges.class, LookEdges.class, BarEdges.class, HistoryEdges.class,
        RefusedCalls.class,
        LanguageRules.class, ReadmeTells.class, RandomRuns.class,
    };

    public static void main(String[] args) throws Exception {
        if (args.length > 0) {
            LanguageRules.program = args[0];
        }
        int passed = 0;
        int failed = promisesWithoutATest();
        for (Class<?> tests : TESTS) {
            Method[] methods = tests.getDeclaredMethods();
            Arrays.sort(methods, Comparator.comparing(Method::getName));
            for (Method method : methods) {
                if (!method.getName().matches("(promise|term|rule|readme|runs).*")) {
                    continue;
                }
                if (passes(method)) {
                    passed++;
                } else {
                    failed++;
                    System.out.println("FAILED: " + tests.getName() + "." + method.getName());
                }
            }
        }
        System.out.println("own tests: " + passed + " passed, " + failed + " failed");
        if (failed > 0 || passed == 0) {
            System.exit(1);
        }
    }

    /** Each promise has a test of what it says, and one of its edges. */
    private static int promisesWithoutATest() {
        int without = 0;
        for (int promise = 1; promise <= PROMISES; promise++) {
            String name = String.format("promise%02d", promise);
            long classes = Arrays.stream(TESTS)
                    .filter(tests -> Arrays.stream(tests.getDeclaredMethods()).anyMatch(m -> m.getName().startsWith(name)))
                    .count();
            if (classes < 2) {
                without++;
                System.out.println("FAILED: too few tests of " + name);
            }
        }
        return without;
    }

    private static boolean passes(Method method) {
        Due due = new Due();
        try {
            method.invoke(null, due);
        } catch (ReflectiveOperationException e) {
            Throwable cause = e.getCause() == null ? e : e.getCause();
            cause.printStackTrace(System.out);
            return false;
        }
        return due.allDue();
    }
}
