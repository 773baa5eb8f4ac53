/** Promise 1: what a new object answers. */
public final class NewObjectTest {
    public static void main(String[] args) {
        noRules();
        emptyUnits();
        nothingListed();
        nothingCollected();
        objectsShareNothing();
        Checks.end();
    }

    private static void noRules() {
        RetentionRows x = new RetentionRows();
        for (int rule = -1; rule <= 20; rule++) {
            Checks.is("change of rule " + rule, x.change(rule, 1, 1), RetentionRows.NONE);
            Checks.is("schedule of rule " + rule, x.schedule(0, rule), RetentionRows.NONE);
            Checks.is("breaks of rule " + rule, x.breaks(rule, true), false);
            Checks.is("breaks of rule " + rule + " again", x.breaks(rule, true), false);
        }
    }

    private static void emptyUnits() {
        RetentionRows x = new RetentionRows();
        int[] due = {-1, -1, -1, -1, 0, 0, 0, -1, -1};
        for (int unit = 0; unit < 60; unit += 59) {
            for (int what = 0; what < due.length; what++) {
                Checks.is("about(" + unit + ", " + what + ")", x.about(unit, what), due[what]);
            }
            Checks.is("day(" + unit + ", 0)", x.day(unit, 0), -1);
        }
    }

    private static void nothingListed() {
        RetentionRows x = new RetentionRows();
        Checks.is("at(0, 0)", Checks.at(x, 0, 0), Checks.THROWN);
        Checks.is("history(0)", Checks.history(x, 0), Checks.THROWN);
        Checks.is("due(1000000)", x.due(1000000), 0);
        Checks.is("at(0, 0) behind due", Checks.at(x, 0, 0), Checks.THROWN);
    }

    private static void nothingCollected() {
        Checks.is("rule()", new RetentionRows().rule(), -10);
    }

    private static void objectsShareNothing() {
        RetentionRows one = new RetentionRows();
        RetentionRows other = new RetentionRows();
        Checks.signs(one, "made 1 destroy");
        Checks.is("rule() of the other", other.rule(), -10);
        Checks.is("rule() of the one", one.rule(), 0);
        one.event(0, 0, 5);
        Checks.is("event of the other", other.about(0, 0), -1);
        Checks.is("rule of the other", other.schedule(0, 0), RetentionRows.NONE);
    }
}
