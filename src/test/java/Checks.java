/** Counts and prints what is not as due. */
final class Checks {
    private int made;
    private int wrong;
    private String part = "";

    void part(String name) {
        part = name;
    }

    void due(long want, long got, String what) {
        made++;
        if (got == want) return;
        wrong++;
        System.out.println(part + ": " + what + " answered " + got + ", due is " + want);
    }

    void holds(boolean so, String what) {
        due(1, so ? 1 : 0, what);
    }

    int wrong() {
        return wrong;
    }

    void end() {
        System.out.println(made + " checks, " + wrong + " wrong");
        if (wrong != 0 || made == 0) System.exit(1);
    }
}
