import java.util.NoSuchElementException;

/** Counts and prints the answers that are not as due; a test ends with its finish(). */
final class Checks {
    /** A call whose exception is looked at. */
    interface Call {
        void run();
    }

    private final String test;
    private String part = "";
    private int asked = 0;
    private int wrong = 0;

    Checks(String test) {
        this.test = test;
    }

    void part(String name) {
        part = name;
    }

    void is(String what, long got, long due) {
        asked++;
        if (got != due) {
            fail(what + " answered " + got + ", due is " + due);
        }
    }

    void is(String what, boolean got, boolean due) {
        is(what, got ? 1 : 0, due ? 1 : 0);
    }

    void same(String what, String got, String due) {
        asked++;
        if (!got.equals(due)) {
            fail(what + ": differs at '" + firstDifference(got, due) + "'");
        }
    }

    void illegal(String what, Call call) {
        throwsJust(what, IllegalArgumentException.class, call);
    }

    void missing(String what, Call call) {
        throwsJust(what, NoSuchElementException.class, call);
    }

    /** Makes calls that are refused or throw, and looks whether all that the file tells is as it was. */
    void unchanged(String what, Run run, Call calls) {
        String before = run.picture();
        calls.run();
        same(what, run.picture(), before);
    }

    boolean allAsDue() {
        return wrong == 0;
    }

    void fail(String message) {
        wrong++;
        if (wrong <= 50) {
            System.out.println(test + ", " + part + ": " + message);
        }
    }

    void finish() {
        System.out.println(test + ": " + asked + " answers, " + wrong + " not as due");
        if (wrong != 0) {
            System.exit(1);
        }
    }

    private void throwsJust(String what, Class<?> due, Call call) {
        asked++;
        try {
            call.run();
            fail(what + " threw nothing, due is " + due.getName());
        } catch (RuntimeException e) {
            if (e.getClass() != due) {
                fail(what + " threw " + e + ", due is " + due.getName());
            }
        }
    }

    private static String firstDifference(String got, String due) {
        String[] gotLines = got.split("\n");
        String[] dueLines = due.split("\n");
        for (int i = 0; i < Math.min(gotLines.length, dueLines.length); i++) {
            if (!gotLines[i].equals(dueLines[i])) {
                return gotLines[i] + "' where due is '" + dueLines[i];
            }
        }
        return gotLines.length + " lines' where due is '" + dueLines.length + " lines";
    }
}
