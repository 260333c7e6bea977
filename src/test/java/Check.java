import java.util.NoSuchElementException;

/** Counts and prints every call whose answer is not the one that is due. */
final class Check {
    /** A call of the face; a call that answers nothing answers 0 here. */
    interface Call {
        long go();
    }

    static final String NO_ELEMENT = "throws.NoSuchElementException";
    static final String ARGUMENT = "throws.IllegalArgumentException";
    static final String STATE = "throws.IllegalStateException";

    private static int wrong = 0;
    private static String sentence = "";

    private Check() { }

    static String outcome(Call call) {
        try {
            return Long.toString(call.go());
        } catch (NoSuchElementException e) {
            return NO_ELEMENT;
        } catch (IllegalArgumentException e) {
            return ARGUMENT;
        } catch (IllegalStateException e) {
            return STATE;
        } catch (RuntimeException e) {
            return "throws." + e.getClass().getSimpleName();
        }
    }

    /** The test of one sentence of the document. */
    static void sentence(String words, Runnable test) {
        sentence = words + " -- ";
        try {
            test.run();
        } catch (RuntimeException e) {
            same("a call that should answer", "throws." + e.getClass().getSimpleName(), "no exception");
        }
        sentence = "";
    }

    static void same(String what, String got, String want) {
        if (!got.equals(want)) {
            wrong++;
            System.out.println(sentence + what + " answered " + got + ", due is " + want);
        }
    }

    static void due(String what, long got, long want) {
        same(what, Long.toString(got), Long.toString(want));
    }

    static void isThrown(String what, Call call, String want) {
        same(what, outcome(call), want);
    }

    static int wrongSoFar() {
        return wrong;
    }

    static void finish() {
        if (wrong != 0) {
            System.out.println(wrong + " answers are not as due");
            System.exit(1);
        }
    }
}
