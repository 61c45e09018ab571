/** Counts and prints what is not as due. */
final class Check {
    private int wrong;
    private String about = "";

    /** The words of the document that the checks to come hold the class to; printed if one fails. */
    void about(String words) {
        about = words;
    }

    void due(String what, long got, long want) {
        if (got != want) {
            fail(what + " answered " + got + ", due is " + want);
        }
    }

    /** The call must throw exactly this exception, and no class below it. */
    void throwing(String what, Class<? extends RuntimeException> due, Runnable call) {
        try {
            call.run();
        } catch (RuntimeException e) {
            if (e.getClass() != due) {
                fail(what + " threw " + e + ", due is " + due);
            }
            return;
        }
        fail(what + " threw nothing, due is " + due);
    }

    void end() {
        if (wrong != 0) {
            System.out.println(wrong + " wrong");
            System.exit(1);
        }
    }

    private void fail(String how) {
        wrong++;
        System.out.println((about.isEmpty() ? "" : "\"" + about + "\": ") + how);
    }
}
