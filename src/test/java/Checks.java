import java.lang.reflect.InvocationTargetException;
import java.lang.reflect.Method;
import java.util.Arrays;
import java.util.Comparator;

/** Counts and prints what is not as due. */
final class Checks {
    private static final int MOST_MILLIS = 300000;

    private int made;
    private int wrong;
    private String part = "";

    Checks() {
        Thread watch = new Thread(Checks::haltLate);
        watch.setDaemon(true);
        watch.start();
    }

    /** A call that never ends must fail the run, not hold it up. */
    private static void haltLate() {
        try {
            Thread.sleep(MOST_MILLIS);
        } catch (InterruptedException woken) {
            return;
        }
        System.out.println("not ended in time");
        Runtime.getRuntime().halt(1);
    }

    void part(String name) {
        part = name;
    }

    void due(long want, long got, String what) {
        made++;
        if (got == want) return;
        wrong++;
        System.out.println(part + ": " + what + " answered " + got + ", due is " + want);
    }

    void holds(boolean so, String what) {
        due(1, so ? 1 : 0, what);
    }

    int wrong() {
        return wrong;
    }

    /** Runs all methods of a class whose names begin with p and a number: each is the test of one sentence of that promise. */
    void runSentences(Class<?> tests) throws ReflectiveOperationException {
        Method[] methods = tests.getDeclaredMethods();
        Arrays.sort(methods, Comparator.comparing(Method::getName));
        for (Method m : methods) {
            if (!m.getName().matches("p\\d+_.*")) continue;
            part(m.getName());
            int before = made;
            m.setAccessible(true);
            try {
                m.invoke(null);
            } catch (InvocationTargetException thrown) {
                holds(false, "threw " + thrown.getCause());
            }
            holds(made > before, "looks at something");
        }
    }

    void end() {
        System.out.println(made + " checks, " + wrong + " wrong");
        if (wrong != 0 || made == 0) System.exit(1);
    }
}
