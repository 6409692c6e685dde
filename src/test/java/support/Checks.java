/** What the tests share: comparing answers, and telling how a call ends. */
final class Checks {
    interface Call {
        Number answer();
    }

    private static int wrong = 0;
    private static int checked = 0;

    private Checks() {
    }

    static void due(String what, long got, long want) {
        dueText(what, String.valueOf(got), String.valueOf(want));
    }

    static void dueText(String what, String got, String want) {
        checked++;
        if (!got.equals(want)) {
            wrong++;
            System.out.println(what + ":\n  is  " + got + "\n  due " + want);
        }
    }

    /** The answer, or the name of the exception. */
    static String outcome(Call call) {
        try {
            return String.valueOf(call.answer());
        } catch (RuntimeException e) {
            return e.getClass().getName();
        }
    }

    static void end(String name) {
        System.out.println(name + ": " + checked + " checks, " + wrong + " wrong");
        if (wrong > 0 || checked == 0) {
            System.exit(1);
        }
    }
}
