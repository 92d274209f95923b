/** Counts checks and tells those that fail. */
final class Checks {
    private int passed;
    private int failed;

    void same(String what, Object got, Object due) {
        if (due.equals(got)) {
            passed++;
        } else {
            failed++;
            System.out.println(what + "\n  answered " + got + "\n  due is   " + due);
        }
    }

    /** Runs a call that must throw just the exception that is named. */
    void throwsJust(String what, Class<? extends RuntimeException> due, Runnable call) {
        String got = "nothing";
        try {
            call.run();
        } catch (RuntimeException e) {
            got = e.getClass().getName();
        }
        same(what + " throws", got, due.getName());
    }

    void finish(String name) {
        System.out.println(name + ": " + passed + " checks passed, " + failed + " failed");
        if (failed > 0 || passed == 0) {
            System.exit(1);
        }
    }
}
