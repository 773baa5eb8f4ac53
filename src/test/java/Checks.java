import java.util.NoSuchElementException;

/** What the tests share: telling texts to an object, comparing answers, and the exit code. */
final class Checks {
    /** Stands for a NoSuchElementException; no call of the class answers it. */
    static final int THROWN = Integer.MIN_VALUE;

    private static int wrong = 0;
    private static int asked = 0;
    private static String sentence = "";

    private Checks() {
    }

    /** The document's words that the answers behind this call are held against. */
    static void sentence(String words) {
        sentence = "[" + words + "] ";
    }

    static void is(String what, long got, long want) {
        asked++;
        if (got != want) {
            wrong++;
            System.out.println(sentence + what + ": answered " + told(got) + ", due is "
                    + told(want));
        }
    }

    static void is(String what, boolean got, boolean want) {
        is(what, got ? 1 : 0, want ? 1 : 0);
    }

    static void sameText(String what, String got, String want) {
        asked++;
        if (!got.equals(want)) {
            wrong++;
            System.out.println(what + ": is " + got + ", due is " + want);
        }
    }

    private static String told(long answer) {
        return answer == THROWN ? "NoSuchElementException" : Long.toString(answer);
    }

    static void signs(RetentionRows x, String text) {
        for (int i = 0; i < text.length(); i++) {
            x.sign(text.charAt(i));
        }
    }

    static int rule(RetentionRows x, String text) {
        signs(x, text);
        return x.rule();
    }

    static int at(RetentionRows x, int i, int what) {
        try {
            return x.at(i, what);
        } catch (NoSuchElementException e) {
            return THROWN;
        }
    }

    static int history(RetentionRows x, int i) {
        try {
            return x.history(i);
        } catch (NoSuchElementException e) {
            return THROWN;
        }
    }

    static void end() {
        System.out.println(asked + " answers asked, " + wrong + " wrong");
        if (wrong != 0 || asked == 0) {
            System.exit(1);
        }
    }
}
