/** Promises 6 to 9, and 16: events, rules, holds and exceptions of a unit, and asking about it. */
public final class UnitStateTest {
    private static final int[] NO_UNITS = {-1, 60, 61, Integer.MIN_VALUE, Integer.MAX_VALUE};

    public static void main(String[] args) {
        events();
        wrongEvents();
        schedules();
        wrongSchedules();
        holds();
        wrongHolds();
        exceptions();
        wrongExceptions();
        tellingADisposedUnit();
        wrongAbout();
        Checks.end();
    }

    private static RetentionRows withRules(int count) {
        RetentionRows x = new RetentionRows();
        for (int i = 0; i < count; i++) {
            Checks.rule(x, "made 0 destroy");
        }
        return x;
    }

    private static void events() {
        RetentionRows x = new RetentionRows();
        for (int kind = 0; kind < 4; kind++) {
            Checks.is("event of kind " + kind, x.event(59, kind, 10 + kind), 1);
        }
        Checks.is("event in place of another", x.event(59, 2, 0), 1);
        Checks.is("event on the last day", x.event(59, 3, 1000000), 1);
        int[] due = {10, 11, 0, 1000000};
        for (int kind = 0; kind < 4; kind++) {
            Checks.is("day of event " + kind, x.about(59, kind), due[kind]);
            Checks.is("event " + kind + " of another unit", x.about(58, kind), -1);
        }
    }

    private static void wrongEvents() {
        RetentionRows x = new RetentionRows();
        for (int unit : NO_UNITS) {
            Checks.is("event of unit " + unit, x.event(unit, 0, 0), RetentionRows.NONE);
            Checks.is("none before range", x.event(unit, 4, -1), RetentionRows.NONE);
        }
        Checks.is("kind -1", x.event(0, -1, 0), RetentionRows.RANGE);
        Checks.is("kind 4", x.event(0, 4, 0), RetentionRows.RANGE);
        Checks.is("day -1", x.event(0, 0, -1), RetentionRows.RANGE);
        Checks.is("day 1000001", x.event(0, 0, 1000001), RetentionRows.RANGE);
        Checks.is("nothing was told", x.about(0, 0), -1);
    }

    private static void schedules() {
        RetentionRows x = withRules(6);
        int[] rules = {3, 0, 5, 1};
        for (int i = 0; i < rules.length; i++) {
            Checks.is("rule " + rules[i], x.schedule(4, rules[i]), i + 1);
            Checks.is("how many rules", x.about(4, 4), i + 1);
            Checks.is("rule " + rules[i] + " again", x.schedule(4, rules[i]), RetentionRows.STATE);
        }
        Checks.is("a fifth rule", x.schedule(4, 2), RetentionRows.FULL);
        Checks.is("state before full", x.schedule(4, 0), RetentionRows.STATE);
        Checks.is("none before full", x.schedule(4, 6), RetentionRows.NONE);
        Checks.is("still four", x.about(4, 4), 4);
        Checks.is("another unit's rule", x.schedule(5, 3), 1);
    }

    private static void wrongSchedules() {
        RetentionRows x = withRules(1);
        for (int unit : NO_UNITS) {
            Checks.is("schedule of unit " + unit, x.schedule(unit, 0), RetentionRows.NONE);
        }
        int[] rules = {-1, 1, 20, Integer.MIN_VALUE, Integer.MAX_VALUE};
        for (int rule : rules) {
            Checks.is("schedule of rule " + rule, x.schedule(0, rule), RetentionRows.NONE);
        }
        Checks.is("no rule was taken", x.about(0, 4), 0);
    }

    /** Answers 5 while a hold lasts, and 6 when none does: nobody has approved. */
    private static void held(RetentionRows x, int day, boolean due) {
        Checks.is("held on day " + day, x.dispose(0, 0, day), due ? -15 : -16);
    }

    private static RetentionRows withDueUnit() {
        RetentionRows x = withRules(1);
        x.event(0, 0, 0);
        x.schedule(0, 0);
        return x;
    }

    private static void holds() {
        RetentionRows x = withDueUnit();
        held(x, 0, false);
        for (int kind = 0; kind < 4; kind++) {
            Checks.is("hold of kind " + kind, x.hold(0, kind, 10 * (kind + 1)), 1);
        }
        held(x, 40, true);
        held(x, 41, false);
        Checks.is("a hold in place of another", x.hold(0, 3, 5), 1);
        held(x, 30, true);
        held(x, 31, false);
        Checks.is("a hold without an end", x.hold(0, 0, -1), 1);
        held(x, 1000000, true);
        Checks.is("an end for it", x.hold(0, 0, 0), 1);
        held(x, 31, false);
        Checks.is("a hold until the last day", x.hold(0, 1, 1000000), 1);
        held(x, 1000000, true);
        Checks.is("a held unit is due all the same", x.due(500), 1);
        RetentionRows y = withDueUnit();
        y.hold(1, 0, -1);
        held(y, 0, false);
        y.hold(0, 3, 0);
        held(y, 0, true);
        held(y, 1, false);
    }

    private static void wrongHolds() {
        RetentionRows x = withDueUnit();
        for (int unit : NO_UNITS) {
            Checks.is("hold of unit " + unit, x.hold(unit, 0, 0), RetentionRows.NONE);
            Checks.is("none before range", x.hold(unit, -1, -2), RetentionRows.NONE);
        }
        Checks.is("kind -1", x.hold(0, -1, 0), RetentionRows.RANGE);
        Checks.is("kind 4", x.hold(0, 4, 0), RetentionRows.RANGE);
        Checks.is("until -2", x.hold(0, 0, -2), RetentionRows.RANGE);
        Checks.is("until 1000001", x.hold(0, 0, 1000001), RetentionRows.RANGE);
        held(x, 0, false);
    }

    private static void exceptions() {
        RetentionRows x = withDueUnit();
        Checks.is("due before", x.due(0), 1);
        Checks.is("except(0, 20)", x.except(0, 20), 1);
        Checks.is("on the exception's day", x.due(20), 0);
        Checks.is("behind it", x.due(21), 1);
        Checks.is("not to be disposed of", x.dispose(0, 0, 20), -14);
        Checks.is("the day is the same", x.day(0, 20), 0);
        Checks.is("in place of the one before", x.except(0, 0), 1);
        Checks.is("on day 0", x.due(0), 0);
        Checks.is("on day 1", x.due(1), 1);
        Checks.is("until the last day", x.except(0, 1000000), 1);
        Checks.is("on the last day", x.due(1000000), 0);
    }

    private static void wrongExceptions() {
        RetentionRows x = withDueUnit();
        for (int unit : NO_UNITS) {
            Checks.is("except of unit " + unit, x.except(unit, 0), RetentionRows.NONE);
            Checks.is("none before range", x.except(unit, -1), RetentionRows.NONE);
        }
        Checks.is("until -1", x.except(0, -1), RetentionRows.RANGE);
        Checks.is("until 1000001", x.except(0, 1000001), RetentionRows.RANGE);
        Checks.is("no exception was told", x.due(0), 1);
    }

    private static void tellingADisposedUnit() {
        RetentionRows x = withRules(2);
        x.event(0, 0, 0);
        x.schedule(0, 0);
        x.approve(0, 1);
        x.approve(0, 2);
        Checks.is("disposed of", x.dispose(0, 0, 9), 1);
        Checks.is("event", x.event(0, 1, 0), RetentionRows.STATE);
        Checks.is("event out of range", x.event(0, 4, 0), RetentionRows.RANGE);
        Checks.is("schedule", x.schedule(0, 1), RetentionRows.STATE);
        Checks.is("schedule of no rule", x.schedule(0, 2), RetentionRows.NONE);
        Checks.is("day is told", x.day(0, 0), 0);
        Checks.is("approvals are kept", x.about(0, 5), 2);
        Checks.is("hold", x.hold(0, 0, 1), 1);
        Checks.is("a hold takes approvals away", x.about(0, 5), 0);
        Checks.is("except", x.except(0, 1), 1);
        Checks.is("not due", x.due(1000000), 0);
        Checks.is("still disposed", x.about(0, 6), 1);
    }

    private static void wrongAbout() {
        RetentionRows x = withDueUnit();
        for (int unit : NO_UNITS) {
            Checks.is("about unit " + unit, x.about(unit, 6), RetentionRows.NONE);
        }
        int[] whats = {-1, 9, 10, Integer.MIN_VALUE, Integer.MAX_VALUE};
        for (int what : whats) {
            Checks.is("about what " + what, x.about(0, what), RetentionRows.NONE);
        }
    }
}
