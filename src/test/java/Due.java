/** What the tests have in common: it compares answers with those that are due, and counts the wrong ones. */
final class Due {
    /** A call of which the answer is compared. */
    interface Call {
        long answer();
    }

    private static int wrong = 0;
    private static int asked = 0;
    private static int askedOfSentence = 0;
    private static String sentence = "";

    private Due() {
    }

    /** What follows tests this sentence of the document, as a part of this promise. */
    static void sentence(int promise, String words) {
        endSentence();
        sentence = "promise " + promise + ", \"" + words + "\": ";
    }

    private static void endSentence() {
        if (!sentence.isEmpty() && askedOfSentence == 0) {
            wrong++;
            System.out.println(sentence + "nothing was asked");
        }
        askedOfSentence = 0;
        sentence = "";
    }

    private static void ask() {
        asked++;
        askedOfSentence++;
    }

    private static void tellWrong(String call, String got, String due) {
        wrong++;
        System.out.println(sentence + call + " answered " + got + ", due is " + due);
    }

    static void answer(String call, long got, long due) {
        ask();
        if (got != due) {
            tellWrong(call, String.valueOf(got), String.valueOf(due));
        }
    }

    /** The very class counts: the machine's own exceptions are of classes below those of the document. */
    static void thrown(String call, Class<?> due, Call made) {
        ask();
        String got;
        try {
            got = String.valueOf(made.answer());
        } catch (RuntimeException e) {
            if (e.getClass() == due) {
                return;
            }
            got = e.toString();
        }
        tellWrong(call, got, due.getSimpleName());
    }

    /** To be called at the end of every test. */
    static void end() {
        endSentence();
        if (asked == 0) {
            System.out.println("nothing was asked");
        }
        if (wrong != 0 || asked == 0) {
            System.exit(1);
        }
    }
}
