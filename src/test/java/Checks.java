/** Counts and prints the answers that are not the ones that are due. */
final class Checks {
    interface Call {
        long answer();
    }

    private static final String STATE = "throws.IllegalStateException";
    private static final String ARGUMENT = "throws.IllegalArgumentException";

    private int wrong;
    private int done;
    private String words = "";
    private int doneBefore = -1;

    /** What follows is about these words of the document; each of them has to be looked at. */
    void sentence(String newWords) {
        endSentence();
        words = newWords;
        doneBefore = done;
    }

    private void endSentence() {
        if (doneBefore == done) {
            wrong++;
            System.out.println("[" + words + "] nothing was looked at");
        }
    }

    void due(String what, long got, long want) {
        dueText(what, Long.toString(got), Long.toString(want));
    }

    void due(String what, boolean got, boolean want) {
        dueText(what, Boolean.toString(got), Boolean.toString(want));
    }

    void dueText(String what, String got, String want) {
        done++;
        if (!got.equals(want)) {
            wrong++;
            String about = words.isEmpty() ? "" : "[" + words + "] ";
            System.out.println(about + what + " answered " + got + ", due is " + want);
        }
    }

    void state(String what, Call call) {
        dueText(what, told(call), STATE);
    }

    void argument(String what, Call call) {
        dueText(what, told(call), ARGUMENT);
    }

    /** The answer as a text, or the exception's name behind "throws.". */
    static String told(Call call) {
        try {
            return Long.toString(call.answer());
        } catch (RuntimeException e) {
            return "throws." + e.getClass().getSimpleName();
        }
    }

    void finish() {
        endSentence();
        System.out.println(done + " answers looked at, " + wrong + " not as due");
        if (wrong != 0 || done == 0) {
            System.exit(1);
        }
    }
}
