import java.lang.reflect.Method;
import java.util.Arrays;
import java.util.Comparator;

/** Runs every test method of the project: those whose names begin with "promise", "rule" or "runs". */
public final class AllTests {
    private static final Class<?>[] TESTS = {
        PedalPromises.class, TextPromises.class, LookPromises.class, BarPromises.class, HistoryPromises.class,
        LanguageRules.class, RandomRuns.class,
    };

    public static void main(String[] args) throws Exception {
        if (args.length > 0) {
            LanguageRules.program = args[0];
        }
        int passed = 0;
        int failed = 0;
        for (Class<?> tests : TESTS) {
            Method[] methods = tests.getDeclaredMethods();
            Arrays.sort(methods, Comparator.comparing(Method::getName));
            for (Method method : methods) {
                if (!method.getName().matches("(promise|rule|runs).*")) {
                    continue;
                }
                if (passes(method)) {
                    passed++;
                } else {
                    failed++;
                    System.out.println("FAILED: " + tests.getName() + "." + method.getName());
                }
            }
        }
        System.out.println("own tests: " + passed + " passed, " + failed + " failed");
        if (failed > 0 || passed == 0) {
            System.exit(1);
        }
    }

    private static boolean passes(Method method) {
        Due due = new Due();
        try {
            method.invoke(null, due);
        } catch (ReflectiveOperationException e) {
            Throwable cause = e.getCause() == null ? e : e.getCause();
            cause.printStackTrace(System.out);
            return false;
        }
        return due.allDue();
    }
}
