/** Promise 2, its boundary cases: eight bits of a sign, and signs beyond 40. */
public final class Boundary02SignTest {
    public static void main(String[] args) {
        higherBitsAreLost();
        theEighthBitCounts();
        noughtIsASign();
        everySignIsOneSign();
        beyondFortyIsLost();
        theLongestTextHasRoom();
        lostSignsAreNotKept();
        Checks.end();
    }

    private static void higherBitsAreLost() {
        Checks.sentence("2 sign: the lowest eight bits");
        int[] higher = {256, 512, 0x100 << 22, 0x7fffff00, -256, -512, Integer.MIN_VALUE};
        for (int bits : higher) {
            RetentionRows x = new RetentionRows();
            for (char c : "closed 999 transfer".toCharArray()) {
                x.sign(c + bits);
            }
            Checks.is("with " + bits, x.rule(), 0);
        }
        for (int bit = 8; bit < 32; bit++) {
            RetentionRows x = new RetentionRows();
            for (char c : "used 1 destroy".toCharArray()) {
                x.sign(c | 1 << bit);
            }
            Checks.is("with bit " + bit, x.rule(), 0);
        }
    }

    private static void theEighthBitCounts() {
        Checks.sentence("2 sign: the lowest eight bits, not seven");
        int[] places = {0, 0, 0, 0, 4, 5, 6, 7, 7, 7, 7, 7, 7, 7};
        char[] text = "made 1 destroy".toCharArray();
        for (int i = 0; i < text.length; i++) {
            for (int bits : new int[] {128, -128}) {
                RetentionRows x = new RetentionRows();
                for (int j = 0; j < text.length; j++) {
                    x.sign(i == j ? text[j] + bits : text[j]);
                }
                Checks.is(bits + " more at " + i, x.rule(), -10 - places[i]);
            }
        }
    }

    private static void noughtIsASign() {
        Checks.sentence("2 sign: a sign more, whatever it is");
        int[] noughts = {0, 256, -256, Integer.MIN_VALUE};
        for (int nought : noughts) {
            RetentionRows x = new RetentionRows();
            Checks.signs(x, "made 1 destroy");
            x.sign(nought);
            Checks.is(nought + " behind a rule", x.rule(), -24);
            x.sign(nought);
            Checks.signs(x, "made 1 destroy");
            Checks.is(nought + " before a rule", x.rule(), -10);
        }
    }

    private static void everySignIsOneSign() {
        Checks.sentence("2 sign: a sign more of a rule's text");
        int[] signs = {-1, 255, 127, 128, Integer.MAX_VALUE, '\n', 'x', ' '};
        for (int sign : signs) {
            RetentionRows x = new RetentionRows();
            Checks.signs(x, "made ");
            x.sign(sign);
            Checks.signs(x, "1 destroy");
            Checks.is(sign + " before the digits", x.rule(), -15);
            Checks.signs(x, "closed 12 transfer");
            x.sign(' ');
            x.sign(sign);
            Checks.is("a space and " + sign + " behind it", x.rule(), -28);
        }
    }

    /** A sign that came again at the start, or in place of the last, would change the answer. */
    private static void beyondFortyIsLost() {
        Checks.sentence("2 sign: beyond 40 it is lost");
        for (int count = 38; count <= 42; count++) {
            RetentionRows x = new RetentionRows();
            Checks.signs(x, " ".repeat(count));
            Checks.is("a rule behind " + count + " spaces", Checks.rule(x, "made 1 destroy"), -10);
            Checks.signs(x, "made 1 destroy" + " ".repeat(count - 14));
            Checks.is("a rule before others", Checks.rule(x, "closed 2 transfer"), -24);
            Checks.signs(x, "death 1 " + "d".repeat(count - 8));
            Checks.is("a rule behind letters", Checks.rule(x, "used 1 destroy"), -18);
        }
        RetentionRows y = new RetentionRows();
        Checks.signs(y, "made 1 destroy" + " ".repeat(26 + 460));
        Checks.is("500 signs", y.rule(), -24);
        RetentionRows z = new RetentionRows();
        Checks.signs(z, "a".repeat(511));
        Checks.is("511 signs", z.rule(), -10);
    }

    private static void theLongestTextHasRoom() {
        Checks.sentence("2 sign: up to 40 it is not lost");
        RetentionRows x = new RetentionRows();
        Checks.is("19 signs", Checks.rule(x, "closed 999 transfer"), 0);
        Checks.is("20 signs", Checks.rule(x, "closed 999 transfer "), -29);
        Checks.is("40 signs", Checks.rule(x, "closed 999 transfer" + ".".repeat(21)), -29);
        Checks.is("40 signs, a long word", Checks.rule(x, "closed 999 transfer" + "r".repeat(21)),
                -21);
    }

    private static void lostSignsAreNotKept() {
        Checks.sentence("2 sign: what is lost is not there later");
        RetentionRows x = new RetentionRows();
        Checks.signs(x, ".".repeat(40));
        Checks.signs(x, "made 1 destroy");
        x.rule();
        Checks.is("nothing is left of it", x.rule(), -10);
        Checks.signs(x, ".".repeat(60));
        x.rule();
        Checks.is("a rule behind it", Checks.rule(x, "made 1 destroy"), 0);
    }
}
