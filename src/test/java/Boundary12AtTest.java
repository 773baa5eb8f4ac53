/** Promise 12, its boundary cases: what is not listed, another what, and a list as it was. */
public final class Boundary12AtTest {
    private static final int[] NO_WHATS = {-1, 3, 4, Integer.MIN_VALUE, Integer.MAX_VALUE};

    public static void main(String[] args) {
        noneSuchBeforeAList();
        noneSuchInAList();
        noneSuchInAnEmptyList();
        firstAndLastOfAll();
        anotherWhat();
        eachWhat();
        actionOfTheFirstOfSeveral();
        actionAtEveryPlace();
        asTheyWere();
        asTheyWereBehindADisposal();
        Checks.end();
    }

    private static void noneSuch(RetentionRows x, int i) {
        for (int what = 0; what < 3; what++) {
            Checks.is("at(" + i + ", " + what + ")", Checks.at(x, i, what), Checks.THROWN);
        }
    }

    private static void listed(RetentionRows x, int i, int unit, int day, int action) {
        Checks.is("unit at " + i, Checks.at(x, i, 0), unit);
        Checks.is("day at " + i, Checks.at(x, i, 1), day);
        Checks.is("action at " + i, Checks.at(x, i, 2), action);
    }

    private static void noneSuchBeforeAList() {
        Checks.sentence("12 at: NoSuchElementException if there is none such: nothing was listed");
        RetentionRows x = Scenes.withDueUnits(2, 0);
        for (int i : new int[] {-1, 0, 1, 59, 60, Integer.MIN_VALUE, Integer.MAX_VALUE}) {
            noneSuch(x, i);
        }
    }

    private static void noneSuchInAList() {
        Checks.sentence("12 at: NoSuchElementException if there is none such");
        RetentionRows x = Scenes.withDueUnits(3, 0);
        x.due(0);
        for (int i : new int[] {-1, 3, 4, 59, 60, Integer.MIN_VALUE, Integer.MAX_VALUE}) {
            noneSuch(x, i);
        }
        listed(x, 2, 2, 0, 0);
    }

    private static void noneSuchInAnEmptyList() {
        Checks.sentence("12 at: NoSuchElementException if there is none such: none is listed now");
        RetentionRows x = Scenes.withDueUnits(3, 5);
        x.due(5);
        x.due(4);
        noneSuch(x, 0);
        noneSuch(x, -1);
    }

    private static void firstAndLastOfAll() {
        Checks.sentence("12 at: the i-th that was listed, from 0 on");
        RetentionRows x = Scenes.withDueUnits(60, 5);
        x.due(5);
        listed(x, 0, 0, 5, 0);
        listed(x, 59, 59, 5, 0);
        noneSuch(x, 60);
        noneSuch(x, -1);
    }

    private static void anotherWhat() {
        Checks.sentence("12 at: NoSuchElementException for another what");
        RetentionRows x = Scenes.withDueUnits(2, 0);
        x.due(0);
        for (int what : NO_WHATS) {
            Checks.is("at(0, " + what + ")", Checks.at(x, 0, what), Checks.THROWN);
            Checks.is("at(1, " + what + ")", Checks.at(x, 1, what), Checks.THROWN);
            Checks.is("at(2, " + what + ")", Checks.at(x, 2, what), Checks.THROWN);
        }
        listed(x, 0, 0, 0, 0);
    }

    private static void eachWhat() {
        Checks.sentence("12 at: 0: the unit, 1: its DUE DAY, 2: the ACTION");
        RetentionRows x = Scenes.withRules("made 1 transfer", "used 0 destroy");
        x.event(59, 0, 10);
        x.schedule(59, 0);
        x.event(7, 1, 400);
        x.schedule(7, 1);
        Checks.is("both are due", x.due(1000), 2);
        listed(x, 0, 59, 375, 1);
        listed(x, 1, 7, 400, 0);
    }

    private static void actionOfTheFirstOfSeveral() {
        Checks.sentence("Terms: the ACTION of the rule with that day (of several the first)");
        RetentionRows x = Scenes.withRules("made 0 destroy", "made 0 transfer", "made 0 transfer",
                "made 0 destroy");
        int[][] rows = {{0, 1, 2, 3}, {1, 0, 3, 2}, {2, 3}, {3, 2}, {1, 2, 0}};
        int[] actions = {0, 1, 1, 0, 1};
        for (int unit = 0; unit < rows.length; unit++) {
            x.event(unit, 0, 5);
            for (int rule : rows[unit]) {
                x.schedule(unit, rule);
            }
        }
        Checks.is("all are due", x.due(5), rows.length);
        for (int unit = 0; unit < rows.length; unit++) {
            listed(x, unit, unit, 5, actions[unit]);
        }
    }

    private static void actionAtEveryPlace() {
        Checks.sentence("Terms: what is done then is the ACTION of the rule with that day");
        String[] events = {"made", "used", "closed", "death"};
        for (int latest = 0; latest < 4; latest++) {
            for (int action = 0; action < 2; action++) {
                RetentionRows x = new RetentionRows();
                for (int i = 0; i < 4; i++) {
                    boolean transfer = i == latest ? action == 1 : action == 0;
                    Checks.rule(x, events[i] + (transfer ? " 0 transfer" : " 0 destroy"));
                    x.event(0, i, i == latest ? 9 : 8);
                    x.schedule(0, i);
                }
                x.due(9);
                listed(x, 0, 0, 9, action);
            }
        }
    }

    private static void asTheyWere() {
        Checks.sentence("12 at: as they were");
        RetentionRows x = Scenes.withRules("made 0 destroy", "used 0 transfer");
        Scenes.makeDue(x, 4, 10);
        x.due(10);
        x.event(4, 0, 20);
        listed(x, 0, 4, 10, 0);
        x.event(4, 1, 30);
        x.schedule(4, 1);
        listed(x, 0, 4, 10, 0);
        x.change(0, 9, 0);
        x.breaks(0, true);
        listed(x, 0, 4, 10, 0);
        x.hold(4, 0, -1);
        x.except(4, 1000);
        listed(x, 0, 4, 10, 0);
        Scenes.makeDue(x, 0, 0);
        Checks.rule(x, "made 0 destroy");
        listed(x, 0, 4, 10, 0);
        noneSuch(x, 1);
    }

    private static void asTheyWereBehindADisposal() {
        Checks.sentence("12 at: as they were, though DISPOSED of");
        RetentionRows x = Scenes.withDueUnits(2, 10);
        x.due(10);
        Scenes.destroy(x, 0, 10);
        x.certificate(0, 1);
        listed(x, 0, 0, 10, 0);
        listed(x, 1, 1, 10, 0);
        x.due(10);
        listed(x, 0, 1, 10, 0);
        noneSuch(x, 1);
    }
}
