import java.util.List;

/** Compares answers with what is due, and ends a test with exit code 1 if one was wrong. */
final class Dues {
    interface Call {
        Object answer();
    }

    private final String test;
    private int compared = 0;
    private int wrong = 0;

    Dues(String test) {
        this.test = test;
    }

    /** A whole number is compared by its value, an exception by its simple name. */
    static String textOf(Call call) {
        try {
            return String.valueOf(call.answer());
        } catch (RuntimeException e) {
            return "throws." + e.getClass().getSimpleName();
        }
    }

    void due(String what, Call call, Object want) {
        compare(what, textOf(call), String.valueOf(want));
    }

    void outside(String what, Call call) {
        due(what, call, "throws.IndexOutOfBoundsException");
    }

    void illegal(String what, Call call) {
        due(what, call, "throws.IllegalArgumentException");
    }

    void tooMany(String what, Call call) {
        due(what, call, "throws.IllegalStateException");
    }

    /**
     * Makes calls on a new object, each a row such as "drops(4, 9, 1, 10) = 10"; behind the sign stands what is due,
     * or outside, illegal or tooMany for an exception. A row without the sign, such as "pass(1)" or "4 pass(1)", makes
     * the call (4 times), whatever it answers.
     */
    void run(String what, String... rows) {
        Calls calls = new Calls();
        for (String row : rows) {
            int sign = row.indexOf(" = ");
            if (sign >= 0) {
                String call = row.substring(0, sign);
                compare(what + ": " + call, calls.answer(call), wanted(row.substring(sign + 3)));
            } else {
                repeat(calls, row);
            }
        }
    }

    void run(String what, List<String> rows) {
        run(what, rows.toArray(new String[0]));
    }

    private static void repeat(Calls calls, String row) {
        boolean isOften = Character.isDigit(row.charAt(0));
        int space = row.indexOf(' ');
        int times = isOften ? Integer.parseInt(row.substring(0, space)) : 1;
        for (int i = 0; i < times; i++) {
            calls.answer(isOften ? row.substring(space + 1) : row);
        }
    }

    private static String wanted(String text) {
        switch (text) {
            case "outside": return "throws.IndexOutOfBoundsException";
            case "illegal": return "throws.IllegalArgumentException";
            case "tooMany": return "throws.IllegalStateException";
            default: return text;
        }
    }

    void compare(String what, String got, String want) {
        compared++;
        if (!got.equals(want)) {
            wrong++;
            System.out.println(test + ": " + what + " answered " + got + ", due is " + want);
        }
    }

    void end() {
        System.out.println(test + ": " + compared + " answers, " + wrong + " wrong");
        if (wrong != 0) {
            System.exit(1);
        }
    }
}
