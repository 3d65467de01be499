/** Counts what is checked, and ends a test with exit code 1 if something was not due. */
final class Check {
    interface Call {
        long answer();
    }

    interface On {
        long answer(Openbook x);
    }

    private final String name;
    private String part = "";
    private int done;
    private int wrong;

    Check(String name) {
        this.name = name;
    }

    /** Names what is checked from here on. */
    void part(String text) {
        part = text;
    }

    void is(String what, long got, long due) {
        done++;
        if (got != due) {
            tell(what + " answered " + got + ", due is " + due);
        }
    }

    void same(String what, String got, String due) {
        done++;
        if (!got.equals(due)) {
            tell(what + "\n    is  " + got + "\n    due " + due);
        }
    }

    /** The call must not throw. */
    void answers(String what, Openbook x, On call) {
        done++;
        try {
            call.answer(x);
        } catch (RuntimeException e) {
            tell(what + " threw " + e.getClass().getName());
        }
    }

    /** The call must throw an IndexOutOfBoundsException and change nothing. */
    void place(String what, Openbook x, Call call) {
        throwing(what, x, call, IndexOutOfBoundsException.class);
    }

    /** The call must throw an IllegalArgumentException and change nothing. */
    void range(String what, Openbook x, Call call) {
        throwing(what, x, call, IllegalArgumentException.class);
    }

    /** The call must throw an IllegalStateException and change nothing. */
    void state(String what, Openbook x, Call call) {
        throwing(what, x, call, IllegalStateException.class);
    }

    private void throwing(String what, Openbook x, Call call, Class<? extends RuntimeException> due) {
        done++;
        String before = View.of(x);
        String got;
        try {
            got = "answered " + call.answer();
        } catch (RuntimeException e) {
            got = e.getClass() == due ? "" : "threw " + e.getClass().getName();
        }
        if (!got.isEmpty()) {
            tell(what + " " + got + ", due is " + due.getSimpleName());
        }
        if (!View.of(x).equals(before)) {
            tell(what + " changed something");
        }
    }

    private void tell(String text) {
        wrong++;
        System.out.println(name + ", " + part + ": " + text);
    }

    void end() {
        System.out.println(name + ": " + done + " checks, " + wrong + " wrong");
        if (wrong != 0 || done == 0) {
            System.exit(1);
        }
    }
}
