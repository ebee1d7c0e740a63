/** Compares answers, prints those that are wrong, and ends a test with its exit code. */
final class Checks {
    private static final int MOST_PRINTED = 40;
    private String part = "";
    private int made;
    private int wrong;

    /** Tells what the checks after it belong to. */
    void begin(String name) {
        part = name;
    }

    void same(String call, long got, long due) {
        made++;
        if (got != due) {
            tellWrong(call, String.valueOf(got), String.valueOf(due));
        }
    }

    void sameDouble(String call, double got, double due) {
        made++;
        if (Double.compare(got, due) != 0) {
            tellWrong(call, String.valueOf(got), String.valueOf(due));
        }
    }

    void sameText(String call, String got, String due) {
        made++;
        if (!got.equals(due)) {
            tellWrong(call, "\"" + got + "\"", "\"" + due + "\"");
        }
    }

    void isTrue(String what, boolean isSo) {
        made++;
        if (!isSo) {
            tellWrong(what, "false", "true");
        }
    }

    int wrong() {
        return wrong;
    }

    private void tellWrong(String call, String got, String due) {
        wrong++;
        if (wrong <= MOST_PRINTED) {
            System.out.println(part + ": " + call + " answered " + got + ", due is " + due);
        }
    }

    void end() {
        System.out.println(made + " checks, " + wrong + " wrong");
        if (wrong != 0 || made == 0) {
            System.exit(1);
        }
    }
}
