/** Promises 2 and 3: signs, and what they are as a rule. */
public final class RuleTextTest {
    public static void main(String[] args) {
        everyEventAndAction();
        years();
        wrongEvents();
        wrongYears();
        wrongActions();
        endsTooEarly();
        signsOfEightBits();
        signsBeyondTheRoom();
        collectedAnew();
        fullOfRules();
        Checks.end();
    }

    private static void everyEventAndAction() {
        String[] events = {"made", "used", "closed", "death"};
        String[] actions = {"destroy", "transfer"};
        for (int kind = 0; kind < events.length; kind++) {
            for (int action = 0; action < actions.length; action++) {
                RetentionRows x = new RetentionRows();
                String text = events[kind] + " 2 " + actions[action];
                Checks.is(text, Checks.rule(x, text), 0);
                for (int other = 0; other < events.length; other++) {
                    x.event(7, other, 10 + other);
                }
                x.schedule(7, 0);
                Checks.is(text + ", its day", x.day(7, 0), 10 + kind + 730);
                Checks.is(text + ", listed", x.due(800), 1);
                Checks.is(text + ", its action", Checks.at(x, 0, 2), action);
            }
        }
    }

    private static void years() {
        String[] digits = {"0", "00", "000", "5", "05", "007", "12", "120", "999"};
        int[] due = {0, 0, 0, 5, 5, 7, 12, 120, 999};
        RetentionRows x = new RetentionRows();
        for (int i = 0; i < digits.length; i++) {
            Checks.is("years " + digits[i], Checks.rule(x, "made " + digits[i] + " destroy"), i);
            x.event(i, 0, 3);
            x.schedule(i, i);
            Checks.is("day by years " + digits[i], x.day(i, 0), 3 + due[i] * 365);
        }
    }

    private static void wrong(String text, int place) {
        RetentionRows x = new RetentionRows();
        Checks.is("'" + text + "'", Checks.rule(x, text), -10 - place);
        Checks.is("no rule by '" + text + "'", x.schedule(0, 0), RetentionRows.NONE);
        Checks.is("nothing left of '" + text + "'", x.rule(), -10);
    }

    private static void wrongEvents() {
        wrong("", 0);
        wrong(" ", 0);
        wrong(" made 1 destroy", 0);
        wrong("mad 1 destroy", 0);
        wrong("madee 1 destroy", 0);
        wrong("madea 1 destroy", 0);
        wrong("madez 1 destroy", 0);
        wrong("closd 2 destroy", 0);
        wrong("deathmade 2 destroy", 0);
        wrong("destroy 2 destroy", 0);
        wrong("Made 1 destroy", 0);
        wrong("MADE 1 destroy", 0);
        wrong("mAde 1 destroy", 0);
        wrong("1 made destroy", 0);
        wrong("madE 1 destroy", 0);
        wrong("made{ 1 destroy", 4);
        wrong("made` 1 destroy", 4);
        wrong("madeX 1 destroy", 4);
        wrong("made1 destroy", 4);
        wrong("closed\t1 destroy", 6);
    }

    private static void wrongYears() {
        wrong("made  1 destroy", 5);
        wrong("made x destroy", 5);
        wrong("made -1 destroy", 5);
        wrong("made destroy", 5);
        wrong("made / destroy", 5);
        wrong("made : destroy", 5);
        wrong("made 1000 destroy", 8);
        wrong("made 0001 destroy", 8);
        wrong("closed 12345 destroy", 10);
        wrong("made 1x destroy", 6);
        wrong("made 12destroy", 7);
        wrong("made 123destroy", 8);
        wrong("made 1.5 destroy", 6);
    }

    private static void wrongActions() {
        wrong("made 1  destroy", 7);
        wrong("made 1 destro", 7);
        wrong("made 1 destroyy", 7);
        wrong("made 1 destroytransfer", 7);
        wrong("made 1 made", 7);
        wrong("made 1 Destroy", 7);
        wrong("made 1 desTroy", 7);
        wrong("made 1 transfe", 7);
        wrong("made 1 7", 7);
        wrong("made 1 destroy ", 14);
        wrong("made 1 destroy1", 14);
        wrong("made 1 destroyX", 14);
        wrong("made 1 transfer transfer", 15);
        wrong("closed 999 transfer.", 19);
    }

    private static void endsTooEarly() {
        String text = "death 35 transfer";
        int[] places = {0, 0, 0, 0, 0, 5, 6, 7, 8, 9, 9, 9, 9, 9, 9, 9, 9};
        for (int length = 0; length < text.length(); length++) {
            wrong(text.substring(0, length), places[length]);
        }
        RetentionRows x = new RetentionRows();
        for (int length = 0; length < text.length(); length++) {
            Checks.rule(x, text);
            String part = text.substring(0, length);
            Checks.is("'" + part + "' behind the whole", Checks.rule(x, part),
                    -10 - places[length]);
        }
    }

    private static void signsOfEightBits() {
        int[] added = {256, -256, 0x7fffff00, Integer.MIN_VALUE};
        for (int more : added) {
            RetentionRows x = new RetentionRows();
            for (char c : "used 4 transfer".toCharArray()) {
                x.sign(c + more);
            }
            Checks.is("signs with " + more + " more", x.rule(), 0);
        }
        RetentionRows x = new RetentionRows();
        Checks.signs(x, "made");
        x.sign(' ' + 128);
        Checks.is("the eighth bit counts", x.rule(), -14);
    }

    private static void signsBeyondTheRoom() {
        RetentionRows x = new RetentionRows();
        for (int i = 0; i < 45; i++) {
            x.sign('a');
        }
        Checks.is("45 letters", x.rule(), -10);
        Checks.is("behind 45 letters", Checks.rule(x, "made 1 destroy"), 0);
        Checks.signs(x, "made 1 destroy");
        for (int i = 0; i < 100; i++) {
            x.sign(' ');
        }
        Checks.is("a rule and 100 spaces", x.rule(), -24);
        Checks.is("behind 100 spaces", Checks.rule(x, "made 1 destroy"), 1);
    }

    private static void collectedAnew() {
        RetentionRows x = new RetentionRows();
        Checks.is("first rule", Checks.rule(x, "made 1 destroy"), 0);
        Checks.is("nothing is collected", x.rule(), -10);
        Checks.is("a longer one is wrong", Checks.rule(x, "closed 123 transfer!"), -29);
        Checks.is("the same text again", Checks.rule(x, "made 1 destroy"), 1);
        Checks.signs(x, "made ");
        x.due(5);
        x.event(0, 0, 0);
        Checks.signs(x, "1 destroy");
        Checks.is("told in two parts", x.rule(), 2);
    }

    private static void fullOfRules() {
        RetentionRows x = new RetentionRows();
        for (int i = 0; i < 20; i++) {
            Checks.is("rule " + i, Checks.rule(x, "made 1 destroy"), i);
        }
        Checks.is("rule 20", Checks.rule(x, "made 1 destroy"), RetentionRows.FULL);
        Checks.is("nothing is collected behind FULL", x.rule(), -10);
        Checks.is("wrong comes before full", Checks.rule(x, "made 1 destry"), -17);
        Checks.is("the last rule is there", x.schedule(0, 19), 1);
        Checks.is("no rule 20", x.schedule(0, 20), RetentionRows.NONE);
    }
}
