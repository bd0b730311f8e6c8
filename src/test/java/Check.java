/** Counts what was as it is due and what was not. */
final class Check {
    interface Call {
        void run();
    }

    private static int passed;
    private static int failed;

    private Check() {
    }

    static void same(String what, long got, long due) {
        tell(got == due, what + " answered " + got + ", due is " + due);
    }

    static void same(String what, boolean got, boolean due) {
        tell(got == due, what + " answered " + got + ", due is " + due);
    }

    static void same(String what, String got, String due) {
        tell(got.equals(due), what + " answered " + got + ", due is " + due);
    }

    /** Asks for the exception's very class: a class below it, thrown by the machine, would not do. */
    static void fails(String what, Class<? extends RuntimeException> due, Call call) {
        Class<?> got = null;
        try {
            call.run();
        } catch (RuntimeException e) {
            got = e.getClass();
        }
        tell(got == due, what + " threw " + got + ", due is " + due);
    }

    static void tell(boolean right, String otherwise) {
        if (right) {
            passed++;
        } else {
            failed++;
            if (failed <= 50) {
                System.out.println(otherwise);
            }
            if (Boolean.getBoolean("stopAtOnce")) {
                System.exit(1);
            }
        }
    }

    static void finish(String name) {
        System.out.println(name + ": " + passed + " checks right, " + failed + " wrong");
        if (failed > 0 || passed == 0) {
            System.exit(1);
        }
    }
}
