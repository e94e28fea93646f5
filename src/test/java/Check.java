/** Counts the answers that are not the ones that are due, and tells of each. */
final class Check {
    private int wrong = 0;

    void same(String what, long got, long due) {
        if (got != due) {
            tell(what + " answered " + got + ", due is " + due);
        }
    }

    void same(String what, boolean got, boolean due) {
        if (got != due) {
            tell(what + " answered " + got + ", due is " + due);
        }
    }

    void sameDouble(String what, double got, double due) {
        if (got != due) {
            tell(what + " answered " + got + ", due is " + due);
        }
    }

    void same(String what, String got, String due) {
        if (!got.equals(due)) {
            tell(what + " answered " + got + ", due is " + due);
        }
    }

    /** The call throws just this kind of exception, and the object's digest stays as it was. */
    void refuses(String what, ColourTide tide, Class<? extends Exception> kind, Runnable call) {
        long before = tide.digest();
        Class<?> thrown = null;
        try {
            call.run();
        } catch (RuntimeException e) {
            thrown = e.getClass();
        }
        if (thrown != kind) {
            tell(what + " threw " + thrown + ", due is " + kind);
        }
        same("digest() behind " + what, tide.digest(), before);
    }

    /** The call throws nothing. */
    void takes(String what, Runnable call) {
        try {
            call.run();
        } catch (RuntimeException e) {
            tell(what + " threw " + e.getClass() + ", due is an answer");
        }
    }

    /** Ends the program, with exit code 1 if an answer was wrong. */
    void end() {
        System.out.println(wrong == 0 ? "all answers are as due" : wrong + " answers are not as due");
        System.exit(wrong == 0 ? 0 : 1);
    }

    private void tell(String text) {
        wrong++;
        if (wrong <= 40) {
            System.out.println(text);
        }
    }
}
