/** Compares answers with what is due, and ends a test with exit code 1 if one was wrong. */
final class Dues {
    interface Call {
        Object answer();
    }

    private final String test;
    private int compared = 0;
    private int wrong = 0;

    Dues(String test) {
        this.test = test;
    }

    /** A whole number is compared by its value, an exception by its simple name. */
    static String textOf(Call call) {
        try {
            return String.valueOf(call.answer());
        } catch (RuntimeException e) {
            return "throws." + e.getClass().getSimpleName();
        }
    }

    void due(String what, Call call, Object want) {
        compare(what, textOf(call), String.valueOf(want));
    }

    void outside(String what, Call call) {
        due(what, call, "throws.IndexOutOfBoundsException");
    }

    void illegal(String what, Call call) {
        due(what, call, "throws.IllegalArgumentException");
    }

    void tooMany(String what, Call call) {
        due(what, call, "throws.IllegalStateException");
    }

    void compare(String what, String got, String want) {
        compared++;
        if (!got.equals(want)) {
            wrong++;
            System.out.println(test + ": " + what + " answered " + got + ", due is " + want);
        }
    }

    void end() {
        System.out.println(test + ": " + compared + " answers, " + wrong + " wrong");
        if (wrong != 0) {
            System.exit(1);
        }
    }
}
