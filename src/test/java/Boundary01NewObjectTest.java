/** Promise 1, its boundary cases: of a new object, each of the rules, units and places. */
public final class Boundary01NewObjectTest {
    public static void main(String[] args) {
        noRules();
        unitsWithoutEvents();
        unitsWithoutRules();
        unitsWithoutHolds();
        unitsWithoutExceptions();
        unitsNotApprovedAndNotDisposedOf();
        nothingIsCollected();
        nothingIsListed();
        nothingWasDone();
        Checks.end();
    }

    private static void noRules() {
        Checks.sentence("1 A new object: no rules");
        RetentionRows x = new RetentionRows();
        for (int rule = 0; rule < 20; rule++) {
            Checks.is("change of rule " + rule, x.change(rule, 0, 0), RetentionRows.NONE);
            Checks.is("schedule of rule " + rule, x.schedule(0, rule), RetentionRows.NONE);
            Checks.is("breaks of rule " + rule, x.breaks(rule, true), false);
        }
        Checks.is("the first rule's number", Checks.rule(x, "made 0 destroy"), 0);
        Checks.is("the first rule was not broken", x.breaks(0, false), false);
    }

    private static void unitsWithoutEvents() {
        Checks.sentence("1 A new object: units without events");
        RetentionRows x = new RetentionRows();
        for (int unit = 0; unit < 60; unit++) {
            for (int kind = 0; kind < 4; kind++) {
                Checks.is("about(" + unit + ", " + kind + ")", x.about(unit, kind), -1);
            }
        }
        String[] texts = {"made 0 destroy", "used 0 destroy", "closed 0 destroy",
            "death 0 destroy"};
        for (int kind = 0; kind < 4; kind++) {
            RetentionRows y = Scenes.withRules(texts[kind]);
            for (int unit = 0; unit < 60; unit++) {
                y.schedule(unit, 0);
                Checks.is(texts[kind] + " for unit " + unit, y.day(unit, 0), -1);
            }
        }
    }

    private static void unitsWithoutRules() {
        Checks.sentence("1 A new object: units without rules");
        RetentionRows x = new RetentionRows();
        for (int unit = 0; unit < 60; unit++) {
            Checks.is("about(" + unit + ", 4)", x.about(unit, 4), 0);
            x.event(unit, 0, 0);
            Checks.is("day(" + unit + ", 0)", x.day(unit, 0), -1);
        }
    }

    private static void unitsWithoutHolds() {
        Checks.sentence("1 A new object: units without holds");
        RetentionRows x = Scenes.withDueUnits(60, 0);
        for (int unit = 0; unit < 60; unit++) {
            Checks.is("unit " + unit + " on day 0", x.dispose(unit, 0, 0), -16);
            Checks.is("unit " + unit + " on the last day",
                    x.dispose(unit, 0, Scenes.LAST_DAY), -16);
        }
    }

    private static void unitsWithoutExceptions() {
        Checks.sentence("1 A new object: units without exceptions");
        RetentionRows x = Scenes.withDueUnits(60, 0);
        Checks.is("due on day 0", x.due(0), 60);
        Checks.is("due on the last day", x.due(Scenes.LAST_DAY), 60);
    }

    private static void unitsNotApprovedAndNotDisposedOf() {
        Checks.sentence("1 A new object: units without approvals, not DISPOSED");
        RetentionRows x = new RetentionRows();
        int[] due = {0, 0, -1, -1};
        for (int unit = 0; unit < 60; unit++) {
            for (int i = 0; i < due.length; i++) {
                Checks.is("about(" + unit + ", " + (5 + i) + ")", x.about(unit, 5 + i), due[i]);
            }
            Checks.is("certificate of " + unit, x.certificate(unit, 1), RetentionRows.STATE);
        }
    }

    private static void nothingIsCollected() {
        Checks.sentence("1 A new object: nothing is collected");
        RetentionRows x = new RetentionRows();
        Checks.is("rule()", x.rule(), -10);
        Checks.is("a rule told at once", Checks.rule(new RetentionRows(), "made 0 destroy"), 0);
    }

    private static void nothingIsListed() {
        Checks.sentence("1 A new object: nothing is listed");
        RetentionRows x = new RetentionRows();
        for (int i = 0; i < 60; i++) {
            for (int what = 0; what < 3; what++) {
                Checks.is("at(" + i + ", " + what + ")", Checks.at(x, i, what), Checks.THROWN);
            }
        }
    }

    private static void nothingWasDone() {
        Checks.sentence("1 A new object: no unit was DISPOSED of");
        RetentionRows x = new RetentionRows();
        for (int i = 0; i < 60; i++) {
            Checks.is("history(" + i + ")", Checks.history(x, i), Checks.THROWN);
        }
        RetentionRows y = Scenes.withDueUnits(1, 0);
        Scenes.approveTwice(y, 0);
        Checks.is("no certificate is missed", y.dispose(0, 0, 0), 1);
    }
}
