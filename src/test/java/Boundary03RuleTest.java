/** Promise 3, its boundary cases: each place where a text is wrong, nothing left, and full. */
public final class Boundary03RuleTest {
    private static final String[] EVENTS = {"made", "used", "closed", "death"};
    private static final String[] YEARS = {"0", "42", "999"};
    private static final String[] ACTIONS = {"destroy", "transfer"};

    public static void main(String[] args) {
        wordsThatAreNone();
        wordsThatEndTooEarly();
        wordsThatGoOn();
        capitalLetters();
        noWord();
        aSpaceIsMissed();
        aDigitIsMissed();
        aFourthDigit();
        theTextsEnd();
        whatStandsBehind();
        anySignAtAnyPlace();
        mostAndLeastYears();
        nothingIsCollectedBehindIt();
        numbersOfRules();
        fullOfRules();
        wrongBeforeFull();
        Checks.end();
    }

    private static void wrong(String text, int place) {
        RetentionRows x = new RetentionRows();
        Checks.is("'" + text + "'", Checks.rule(x, text), -10 - place);
        Checks.is("no rule by '" + text + "'", x.schedule(0, 0), RetentionRows.NONE);
    }

    private static void wordsThatAreNone() {
        Checks.sentence("3 rule: WRONG: a word that is none of these at its first sign");
        for (String word : new String[] {"x", "born", "destroy", "transfer", "madd", "usee",
            "closer", "deaths", "ade", "azazaz"}) {
            wrong(word + " 1 destroy", 0);
            wrong(word, 0);
        }
        for (String word : new String[] {"x", "keep", "made", "death", "destroe", "transfes",
            "destrans", "a", "z"}) {
            wrong("made 1 " + word, 7);
            wrong("closed 365 " + word + " ", 11);
        }
    }

    private static void wordsThatEndTooEarly() {
        Checks.sentence("3 rule: WRONG: a word, also where it ends too early, at its first sign");
        for (String event : EVENTS) {
            for (int length = 1; length < event.length(); length++) {
                wrong(event.substring(0, length), 0);
                wrong(event.substring(0, length) + " 1 destroy", 0);
            }
        }
        for (String action : ACTIONS) {
            for (int length = 1; length < action.length(); length++) {
                wrong("used 12 " + action.substring(0, length), 8);
                wrong("used 12 " + action.substring(0, length) + ".", 8);
            }
        }
    }

    private static void wordsThatGoOn() {
        Checks.sentence("3 rule: WRONG: a word, all small letters that follow each other");
        for (String event : EVENTS) {
            for (char c = 'a'; c <= 'z'; c++) {
                wrong(event + c + " 1 destroy", 0);
            }
            wrong(event + event + " 1 destroy", 0);
            wrong(event + "destroy", 0);
        }
        for (String action : ACTIONS) {
            for (char c = 'a'; c <= 'z'; c++) {
                wrong("death 9 " + action + c, 8);
            }
            wrong("death 9 " + action + action, 8);
        }
    }

    private static void capitalLetters() {
        Checks.sentence("3 rule: small letters alone");
        for (String event : EVENTS) {
            for (int i = 0; i < event.length(); i++) {
                wrong(withCapital(event, i) + " 1 destroy", 0);
            }
            wrong(event.toUpperCase() + " 1 destroy", 0);
        }
        for (String action : ACTIONS) {
            for (int i = 0; i < action.length(); i++) {
                wrong("made 1 " + withCapital(action, i), 7);
            }
            wrong("made 1 " + action.toUpperCase(), 7);
        }
    }

    private static String withCapital(String word, int i) {
        return word.substring(0, i) + Character.toUpperCase(word.charAt(i)) + word.substring(i + 1);
    }

    private static void noWord() {
        Checks.sentence("3 rule: WRONG at the first sign that does not fit: no word");
        wrong(" made 1 destroy", 0);
        wrong("1 made destroy", 0);
        wrong("`", 0);
        wrong("{", 0);
        wrong("made 1  destroy", 7);
        wrong("made 1 1", 7);
        wrong("made 1 `", 7);
        wrong("made 1 {", 7);
    }

    private static void aSpaceIsMissed() {
        Checks.sentence("3 rule: WRONG at the first sign that does not fit: no space");
        for (String event : EVENTS) {
            wrong(event + "1 destroy", event.length());
            wrong(event + "\t1 destroy", event.length());
            wrong(event + "_1 destroy", event.length());
            wrong(event + "` 1 destroy", event.length());
            wrong(event + "{ 1 destroy", event.length());
            wrong(event + "X 1 destroy", event.length());
        }
        for (String years : YEARS) {
            wrong("made " + years + "destroy", 5 + years.length());
            wrong("made " + years + "\tdestroy", 5 + years.length());
            wrong("made " + years + ". destroy", 5 + years.length());
        }
    }

    private static void aDigitIsMissed() {
        Checks.sentence("3 rule: 1 to 3 digits, not none");
        for (String event : EVENTS) {
            wrong(event + " destroy", event.length() + 1);
            wrong(event + "  destroy", event.length() + 1);
            wrong(event + " -1 destroy", event.length() + 1);
            wrong(event + " +1 destroy", event.length() + 1);
            wrong(event + " / destroy", event.length() + 1);
            wrong(event + " : destroy", event.length() + 1);
        }
        wrong("made 1/ destroy", 6);
        wrong("made 12: destroy", 7);
    }

    private static void aFourthDigit() {
        Checks.sentence("3 rule: WRONG: a fourth digit");
        for (String event : EVENTS) {
            for (char c = '0'; c <= '9'; c++) {
                wrong(event + " 999" + c + " destroy", event.length() + 4);
                wrong(event + " 000" + c, event.length() + 4);
            }
            wrong(event + " 12345678901234567890 destroy", event.length() + 4);
        }
    }

    private static void theTextsEnd() {
        Checks.sentence("3 rule: WRONG: the text's end, if more is wanted");
        wrong("", 0);
        for (String event : EVENTS) {
            int length = event.length();
            wrong(event, length);
            wrong(event + " ", length + 1);
            for (String years : YEARS) {
                wrong(event + " " + years, length + 1 + years.length());
                wrong(event + " " + years + " ", length + 2 + years.length());
            }
        }
    }

    private static void whatStandsBehind() {
        Checks.sentence("3 rule: WRONG: what stands behind it");
        for (String event : EVENTS) {
            for (String years : YEARS) {
                for (String action : ACTIONS) {
                    String text = event + " " + years + " " + action;
                    for (String behind : new String[] {" ", "  ", "\n", "1", ".", "`", "{", "Z",
                        "\0", "\u00ff", " destroy"}) {
                        wrong(text + behind, text.length());
                    }
                    Checks.is(text, Checks.rule(new RetentionRows(), text), 0);
                }
            }
        }
    }

    private static void anySignAtAnyPlace() {
        Checks.sentence("3 rule: WRONG at the first sign that does not fit");
        char[] text = "made 12 destroy".toCharArray();
        for (int i = 0; i < text.length; i++) {
            for (char c = 0; c < 256; c++) {
                char[] other = text.clone();
                other[i] = c;
                int place = wrongPlace(i, c);
                int due = c == text[i] || place < 0 ? 0 : -10 - place;
                Checks.is("sign " + (int) c + " at " + i,
                        Checks.rule(new RetentionRows(), new String(other)), due);
            }
        }
    }

    /** Where 'made 12 destroy' is wrong with another sign at a place; -1 if it still fits. */
    private static int wrongPlace(int i, char c) {
        boolean letter = c >= 'a' && c <= 'z';
        boolean digit = c >= '0' && c <= '9';
        switch (i) {
            case 4: return letter ? 0 : 4;
            case 5: return digit ? -1 : 5;
            case 6: return digit ? -1 : c == ' ' ? 7 : 6;
            case 7: return digit ? 8 : 7;
            default: return i < 4 ? 0 : 8;
        }
    }

    private static void mostAndLeastYears() {
        Checks.sentence("3 rule: 1 to 3 digits: 0 .. 999 years of 365 days");
        String[] digits = {"0", "00", "000", "1", "01", "001", "9", "10", "99", "100", "990",
            "999"};
        for (int i = 0; i < digits.length; i++) {
            RetentionRows x = Scenes.withRules("made " + digits[i] + " destroy");
            Scenes.makeDue(x, 0, 0);
            Checks.is(digits[i], x.day(0, 0), Integer.parseInt(digits[i]) * 365);
        }
    }

    private static void nothingIsCollectedBehindIt() {
        Checks.sentence("3 rule: nothing is collected any more");
        RetentionRows x = Scenes.withRules(1);
        Checks.is("behind a rule", x.rule(), -10);
        Checks.signs(x, "made 1 destroy ");
        x.rule();
        Checks.is("behind a wrong one", x.rule(), -10);
        Checks.signs(x, "closed 999 transfe");
        x.rule();
        Checks.is("the rest of a wrong one", Checks.rule(x, "r"), -10);
        Checks.signs(x, "made");
        x.rule();
        Checks.is("a rule behind a part", Checks.rule(x, "made 1 destroy"), 1);
        Checks.is("a part of what was there", Checks.rule(x, "made 1"), -16);
        Checks.is("behind nothing", x.rule(), -10);
        RetentionRows y = Scenes.withRules(20);
        Checks.rule(y, "made 1 destroy");
        Checks.is("behind full", y.rule(), -10);
        Checks.is("the rest behind full", Checks.rule(y, " "), -10);
    }

    private static void numbersOfRules() {
        Checks.sentence("3 rule: its number");
        RetentionRows x = new RetentionRows();
        for (int i = 0; i < 20; i++) {
            Checks.is("rule " + i, Checks.rule(x, "made " + i + " destroy"), i);
            if (i % 5 == 0) {
                Checks.is("a wrong one between", Checks.rule(x, "made"), -14);
            }
        }
        x.event(0, 0, 0);
        x.schedule(0, 19);
        Checks.is("the last is the last", x.day(0, 0), 19 * 365);
    }

    private static void fullOfRules() {
        Checks.sentence("3 rule: FULL; RULES are 0 .. 19");
        RetentionRows x = Scenes.withRules(19);
        Checks.is("the twentieth", Checks.rule(x, "made 7 destroy"), 19);
        Checks.is("one more", Checks.rule(x, "used 8 transfer"), RetentionRows.FULL);
        Checks.is("and one more", Checks.rule(x, "used 8 transfer"), RetentionRows.FULL);
        Checks.is("no rule 20", x.schedule(0, 20), RetentionRows.NONE);
        Scenes.makeDue(x, 0, 0);
        Checks.is("rule 0 as it was", x.day(0, 0), 0);
        x.schedule(0, 19);
        Checks.is("rule 19 as it was", x.day(0, 0), 7 * 365);
    }

    private static void wrongBeforeFull() {
        Checks.sentence("3 rule: FULL (if it is not WRONG)");
        RetentionRows x = Scenes.withRules(20);
        Checks.is("nothing", x.rule(), -10);
        Checks.is("a wrong event", Checks.rule(x, "mad 1 destroy"), -10);
        Checks.is("a fourth digit", Checks.rule(x, "made 1000 destroy"), -18);
        Checks.is("a wrong action", Checks.rule(x, "made 1 destro"), -17);
        Checks.is("the text's end", Checks.rule(x, "death 3"), -17);
        Checks.is("what stands behind it", Checks.rule(x, "closed 999 transfer "), -29);
        Checks.is("one that is not wrong", Checks.rule(x, "closed 999 transfer"),
                RetentionRows.FULL);
    }
}
