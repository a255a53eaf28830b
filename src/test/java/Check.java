/** Compares answers with those that are due, and ends a test with exit code 1 if one was not. */
final class Check {
    static final String INDEX = "IndexOutOfBoundsException";
    static final String ARGUMENT = "IllegalArgumentException";
    static final String STATE = "IllegalStateException";

    private static String test = "";
    private static int tests;
    private static int checked;
    private static int wrong;

    private Check() {
    }

    /** From here on what is wrong is told of this test. */
    static void begin(String name) {
        test = name + ": ";
        tests++;
    }

    static void same(String what, String want, String got) {
        checked++;
        if (!want.equals(got)) {
            wrong++;
            System.out.println(test + what + " answered " + got + ", due is " + want);
        }
    }

    static void end() {
        System.out.println((tests == 0 ? "" : tests + " tests, ") + checked + " answers, " + wrong + " not as due");
        if (wrong != 0) {
            System.exit(1);
        }
    }
}
