/** Counts and prints what is not as due; a test ends with end(). */
final class Check {
    static final Class<IndexOutOfBoundsException> INDEX = IndexOutOfBoundsException.class;
    static final Class<IllegalStateException> STATE = IllegalStateException.class;
    static final Class<IllegalArgumentException> ARGUMENT = IllegalArgumentException.class;
    static final int LOW = Integer.MIN_VALUE;
    static final int HIGH = Integer.MAX_VALUE;

    private static int asked = 0;
    private static int wrong = 0;
    private static String about = "";

    interface Call {
        int answer();
    }

    private Check() {
    }

    /** What follows is asked because of this sentence of the document. */
    static void sentence(String where, String sentence) {
        about = where + ", \"" + sentence + "\": ";
        asked++;
        if (!Doc.quote(where, sentence)) {
            report("the document has no such sentence there");
        }
    }

    static void endOfSentences() {
        about = "";
    }

    static void equal(String what, int got, int want) {
        asked++;
        if (got != want) {
            report(what + " is " + got + ", due is " + want);
        }
    }

    static void equal(String what, String got, String want) {
        asked++;
        if (!got.equals(want)) {
            report(what + " is\n" + got + "\ndue is\n" + want);
        }
    }

    static void isTrue(String what, boolean holds) {
        asked++;
        if (!holds) {
            report("not so: " + what);
        }
    }

    /** The call throws exactly this, and all later calls answer as if it had not been made. */
    static void refuses(Run run, String what, Class<? extends RuntimeException> due, Call call) {
        Run other = run.again();
        Class<?> thrown = null;
        try {
            call.answer();
        } catch (RuntimeException e) {
            thrown = e.getClass();
        }
        asked++;
        if (thrown != due) {
            report(what + " throws " + thrown + ", due is " + due);
        }
        changedNothing(what, run, other);
    }

    /** The call answers NONE, and all later calls answer as if it had not been made. */
    static void answersNone(Run run, String what, Call call) {
        Run other = run.again();
        equal(what, call.answer(), -1);
        changedNothing(what, run, other);
    }

    private static void changedNothing(String what, Run run, Run other) {
        equal("the yard behind " + what, Picture.of(run), Picture.of(other));
        equal("the yard later, behind " + what, Picture.later(run), Picture.later(other));
    }

    private static void report(String text) {
        wrong++;
        if (wrong <= 20) {
            System.out.println(about + text);
        }
    }

    static void end() {
        System.out.println(asked + " checks, " + wrong + " wrong");
        if (wrong != 0 || asked == 0) {
            System.exit(1);
        }
    }
}
