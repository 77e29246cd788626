/** What the tests have in common: it compares answers with those that are due, and counts the wrong ones. */
final class Due {
    /** A call of which the answer is compared. */
    interface Call {
        long answer();
    }

    private static int wrong = 0;
    private static int asked = 0;

    private Due() {
    }

    static void answer(String call, long got, long due) {
        asked++;
        if (got != due) {
            wrong++;
            System.out.println(call + " answered " + got + ", due is " + due);
        }
    }

    /** The very class counts: the machine's own exceptions are of classes below those of the document. */
    static void thrown(String call, Class<?> due, Call made) {
        asked++;
        String got;
        try {
            got = String.valueOf(made.answer());
        } catch (RuntimeException e) {
            if (e.getClass() == due) {
                return;
            }
            got = e.toString();
        }
        wrong++;
        System.out.println(call + " answered " + got + ", due is " + due.getSimpleName());
    }

    /** To be called at the end of every test. */
    static void end() {
        if (asked == 0) {
            System.out.println("nothing was asked");
        }
        if (wrong != 0 || asked == 0) {
            System.exit(1);
        }
    }
}
