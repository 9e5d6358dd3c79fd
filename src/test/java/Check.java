/** Looks at the answers of calls; prints those that are not due, with the line of the test. */
final class Check {
    interface Call {
        long run();
    }

    interface RealCall {
        double run();
    }

    interface Act {
        void run();
    }

    private static int wrong = 0;
    private static int looked = 0;
    private static String about = "";

    private Check() {
    }

    static void is(long want, Call call) {
        looked++;
        try {
            long got = call.run();
            if (got != want) {
                tell("answered " + got + ", due is " + want);
            }
        } catch (RuntimeException e) {
            tell("threw " + e + ", due is " + want);
        }
    }

    /** The same double, bit by bit, so that 0.0 and -0.0 differ. */
    static void isReal(double want, RealCall call) {
        looked++;
        try {
            double got = call.run();
            if (Double.doubleToRawLongBits(got) != Double.doubleToRawLongBits(want)) {
                tell("answered " + got + ", due is " + want);
            }
        } catch (RuntimeException e) {
            tell("threw " + e + ", due is " + want);
        }
    }

    static void fine(Act act) {
        is(0, () -> {
            act.run();
            return 0;
        });
    }

    static void bad(Act act) {
        throwsJust(IllegalArgumentException.class, act);
    }

    static void kind(Act act) {
        throwsJust(UnsupportedOperationException.class, act);
    }

    static void malformed(Act act) {
        throwsJust(IllegalStateException.class, act);
    }

    static void noRoom(Act act) {
        throwsJust(IndexOutOfBoundsException.class, act);
    }

    static void notFinite(Act act) {
        throwsJust(ArithmeticException.class, act);
    }

    static void throwsJust(Class<?> want, Act act) {
        looked++;
        try {
            act.run();
            tell("threw nothing, due is " + want.getName());
        } catch (RuntimeException e) {
            if (e.getClass() != want) {
                tell("threw " + e + ", due is " + want.getName());
            }
        }
    }

    /** For a test that compares by itself, and tells what is wrong. */
    static void seen() {
        looked++;
    }

    static int looked() {
        return looked;
    }

    /** What the answers looked at from now on are about; it stands in front of what is told. */
    static void about(String what) {
        about = what;
    }

    static void tell(String what) {
        wrong++;
        if (wrong > 40) {
            return;
        }
        StringBuilder lines = new StringBuilder();
        for (StackTraceElement frame : new Throwable().getStackTrace()) {
            // The classes of the tests have no package; the library's lines tell nothing.
            if (!frame.getClassName().startsWith("Check") && !frame.getClassName().contains(".")) {
                lines.append(' ').append(frame.getFileName()).append(':').append(frame.getLineNumber());
            }
        }
        System.out.println(about + what + " at" + lines);
    }

    static void end() {
        System.out.println(looked + " answers looked at, " + wrong + " not as due");
        if (wrong != 0) {
            System.exit(1);
        }
    }
}
