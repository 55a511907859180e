/** Counts and prints what is not as due; a test ends with end(). */
final class Check {
    private static int asked = 0;
    private static int wrong = 0;

    interface Call {
        int answer();
    }

    private Check() {
    }

    static void equal(String what, int got, int want) {
        asked++;
        if (got != want) {
            report(what + " is " + got + ", due is " + want);
        }
    }

    static void equal(String what, String got, String want) {
        asked++;
        if (!got.equals(want)) {
            report(what + " is\n" + got + "\ndue is\n" + want);
        }
    }

    static void isTrue(String what, boolean holds) {
        asked++;
        if (!holds) {
            report("not so: " + what);
        }
    }

    /** The call throws exactly this, and the yard stays as it was. */
    static void refuses(TrainYard yard, String what, Class<? extends RuntimeException> due, Call call) {
        String before = Picture.of(yard);
        Class<?> thrown = null;
        try {
            call.answer();
        } catch (RuntimeException e) {
            thrown = e.getClass();
        }
        asked++;
        if (thrown != due) {
            report(what + " throws " + thrown + ", due is " + due);
        }
        equal("the yard behind " + what, Picture.of(yard), before);
    }

    private static void report(String text) {
        wrong++;
        if (wrong <= 20) {
            System.out.println(text);
        }
    }

    static void end() {
        System.out.println(asked + " checks, " + wrong + " wrong");
        if (wrong != 0 || asked == 0) {
            System.exit(1);
        }
    }
}
