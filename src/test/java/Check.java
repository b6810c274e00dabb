/** What the tests share: it counts and prints the answers that are not due. */
final class Check {
    /** A call, whatever it answers. */
    interface Call {
        void go();
    }

    static final Class<IllegalArgumentException> ARGUMENT = IllegalArgumentException.class;
    static final Class<IllegalStateException> STATE = IllegalStateException.class;
    static final Class<IndexOutOfBoundsException> INDEX = IndexOutOfBoundsException.class;
    static final Class<UnsupportedOperationException> UNSUPPORTED = UnsupportedOperationException.class;

    private static int wrong;
    private static int made;
    private static String topic = "";

    private Check() {
    }

    static void topic(String text) {
        topic = text;
    }

    static void due(long want, long got) {
        made++;
        if (want != got) {
            tell("answered " + got + ", due is " + want);
        }
    }

    static void due(boolean want, boolean got) {
        due(want ? 1 : 0, got ? 1 : 0);
    }

    static void due(String want, String got) {
        made++;
        if (!want.equals(got)) {
            tell("answered \"" + got + "\", due is \"" + want + "\"");
        }
    }

    /** The exact class is due: a class of the machine's own below it is wrong. */
    static void thrown(Class<? extends RuntimeException> want, Call call) {
        made++;
        try {
            call.go();
            tell("threw nothing, due is " + want.getSimpleName());
        } catch (RuntimeException e) {
            if (e.getClass() != want) {
                tell("threw " + e + ", due is " + want.getSimpleName());
            }
        }
    }

    private static void tell(String text) {
        wrong++;
        if (wrong > 60) {
            return;
        }
        StackTraceElement at = null;
        for (StackTraceElement e : new Throwable().getStackTrace()) {
            if (!e.getClassName().equals("Check") && !e.getClassName().startsWith("Edge$")
                    && !e.getClassName().equals("Edge")) {
                at = e;
                break;
            }
        }
        System.out.println(topic + ": " + text + " (" + at + ")");
    }

    static void end() {
        if (wrong > 0) {
            System.out.println(wrong + " of " + made + " answers are wrong");
            System.exit(1);
        }
        System.out.println(made + " answers are as due");
    }
}
