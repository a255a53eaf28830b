/** Compares answers with those that are due, and ends a test with exit code 1 if one was not. */
final class Check {

    /** A call whose answer, or whose exception, is looked at. */
    interface Call {
        long answer();
    }

    static final String INDEX = "IndexOutOfBoundsException";
    static final String ARGUMENT = "IllegalArgumentException";
    static final String STATE = "IllegalStateException";

    private static int checked;
    private static int wrong;

    private Check() {
    }

    /** What a call answers, as a text; an exception by the name of its very class, since the machine's are subclasses. */
    static String outcome(Call call) {
        try {
            return Long.toString(call.answer());
        } catch (RuntimeException e) {
            return "throws." + e.getClass().getSimpleName();
        }
    }

    static void due(String what, long want, Call call) {
        same(what, Long.toString(want), outcome(call));
    }

    static void refused(String what, String exception, Call call) {
        same(what, "throws." + exception, outcome(call));
    }

    static void dueDouble(String what, double want, double got) {
        same(what, Double.toString(want), Double.toString(got));
    }

    static void same(String what, String want, String got) {
        checked++;
        if (!want.equals(got)) {
            wrong++;
            System.out.println(what + " answered " + got + ", due is " + want);
        }
    }

    /** The call must be refused, and leave the telegraph as it was. */
    static void refusedWithoutTrace(MirrorTelegraph x, String what, String exception, Call call) {
        long before = x.digest();
        refused(what, exception, call);
        due(what + " changes nothing: digest()", before, () -> x.digest());
    }

    static int heightAt(MirrorTelegraph x, int cell) {
        int height = x.setHeight(cell, 0);
        x.setHeight(cell, height);
        return height;
    }

    static void append(MirrorTelegraph x, String text) {
        for (int i = 0; i < text.length(); i++) {
            x.append(text.charAt(i));
        }
    }

    static void end() {
        System.out.println(checked + " answers, " + wrong + " not as due");
        if (wrong != 0) {
            System.exit(1);
        }
    }
}
