/** Promise 7, its boundary cases: rows from none to four rules, and schedules that are refused. */
public final class Boundary07ScheduleTest {
    public static void main(String[] args) {
        noSuchUnit();
        noSuchRule();
        howManyItHas();
        everyUnit();
        notOfADisposedUnit();
        hasThatRule();
        fullBehindFour();
        orderOfRefusals();
        refusedSchedulesChangeNothing();
        Checks.end();
    }

    private static void noSuchUnit() {
        Checks.sentence("7 schedule: NONE if the unit is not there");
        RetentionRows x = Scenes.withRules(1);
        for (int unit : Scenes.NO_UNITS) {
            Checks.is("unit " + unit, x.schedule(unit, 0), RetentionRows.NONE);
        }
        Checks.is("unit 0 has none", x.about(0, 4), 0);
        Checks.is("unit 59 has none", x.about(59, 4), 0);
    }

    private static void noSuchRule() {
        Checks.sentence("7 schedule: NONE if the rule is not there");
        RetentionRows x = Scenes.withRules(2);
        for (int rule : new int[] {-1, 2, 19, 20, Integer.MIN_VALUE, Integer.MAX_VALUE}) {
            Checks.is("rule " + rule, x.schedule(0, rule), RetentionRows.NONE);
            Checks.is("rule " + rule + " of unit 60", x.schedule(60, rule), RetentionRows.NONE);
        }
        Checks.is("it has none", x.about(0, 4), 0);
        Checks.rule(x, "made 0 destroy");
        Checks.is("rule 2, now that it is there", x.schedule(0, 2), 1);
        RetentionRows y = Scenes.withRules(20);
        Checks.is("rule 19", y.schedule(0, 19), 1);
        Checks.is("rule 20", y.schedule(0, 20), RetentionRows.NONE);
    }

    private static void howManyItHas() {
        Checks.sentence("7 schedule: how many it has; a row of at most 4 rules");
        RetentionRows x = Scenes.withRules("made 1 destroy", "made 2 destroy", "made 3 destroy",
                "made 4 destroy");
        x.event(0, 0, 0);
        for (int rule = 0; rule < 4; rule++) {
            Checks.is("rule " + rule, x.schedule(0, rule), rule + 1);
            Checks.is("told of it", x.about(0, 4), rule + 1);
            Checks.is("it counts", x.day(0, 0), (rule + 1) * 365);
        }
    }

    private static void everyUnit() {
        Checks.sentence("7 schedule: UNITS are 0 .. 59, each with a row of its own");
        RetentionRows x = Scenes.withRules(4);
        for (int unit = 0; unit < 60; unit++) {
            for (int rule = 0; rule < 4; rule++) {
                Checks.is("unit " + unit + ", rule " + rule, x.schedule(unit, rule), rule + 1);
            }
        }
    }

    private static void notOfADisposedUnit() {
        Checks.sentence("7 schedule: STATE if it is DISPOSED");
        RetentionRows x = Scenes.withDestroyedUnit(0);
        Checks.rule(x, "made 9 transfer");
        Checks.is("another rule", x.schedule(0, 1), RetentionRows.STATE);
        Checks.is("its own rule", x.schedule(0, 0), RetentionRows.STATE);
        x.certificate(0, 1);
        Checks.is("with a certificate too", x.schedule(0, 1), RetentionRows.STATE);
        Checks.is("still one", x.about(0, 4), 1);
        Checks.is("its due day as it was", x.day(0, 0), 0);
        Checks.is("another unit", x.schedule(1, 1), 1);
    }

    private static void hasThatRule() {
        Checks.sentence("7 schedule: STATE if it has that rule");
        RetentionRows x = Scenes.withRules(4);
        for (int count = 1; count <= 4; count++) {
            x.schedule(0, 4 - count);
            for (int rule = 4 - count; rule < 4; rule++) {
                Checks.is(count + " rules, rule " + rule, x.schedule(0, rule), RetentionRows.STATE);
            }
            Checks.is("how many", x.about(0, 4), count);
        }
        RetentionRows y = Scenes.withRules(2);
        y.schedule(0, 0);
        Checks.is("a rule of the same text", y.schedule(0, 1), 2);
        Checks.is("a rule that another unit has", y.schedule(1, 0), 1);
        y.breaks(0, true);
        Checks.is("a broken rule that it has", y.schedule(0, 0), RetentionRows.STATE);
    }

    private static void fullBehindFour() {
        Checks.sentence("7 schedule: FULL");
        RetentionRows x = Scenes.withRules("made 1 destroy", "made 2 destroy", "made 3 destroy",
                "made 4 destroy", "made 5 destroy", "used 6 destroy");
        x.event(0, 0, 0);
        for (int rule = 0; rule < 4; rule++) {
            x.schedule(0, rule);
        }
        Checks.is("a fifth", x.schedule(0, 4), RetentionRows.FULL);
        Checks.is("a fifth again", x.schedule(0, 4), RetentionRows.FULL);
        Checks.is("another one", x.schedule(0, 5), RetentionRows.FULL);
        Checks.is("still four", x.about(0, 4), 4);
        Checks.is("by the four alone", x.day(0, 0), 4 * 365);
        x.breaks(4, true);
        Checks.is("the fifth does not fail for it", x.day(0, 0), 4 * 365);
        Checks.is("another unit has room", x.schedule(1, 4), 1);
    }

    private static void orderOfRefusals() {
        Checks.sentence("7 schedule: NONE; STATE; FULL, the first of these");
        RetentionRows x = Scenes.withRules(5);
        for (int rule = 0; rule < 4; rule++) {
            x.schedule(0, rule);
        }
        Checks.is("none before full", x.schedule(0, 5), RetentionRows.NONE);
        Checks.is("state before full", x.schedule(0, 3), RetentionRows.STATE);
        x.event(0, 0, 0);
        Scenes.destroy(x, 0, 0);
        Checks.is("disposed of, and full", x.schedule(0, 4), RetentionRows.STATE);
        Checks.is("none before disposed of", x.schedule(0, 5), RetentionRows.NONE);
        Checks.is("none, by the unit", x.schedule(60, 5), RetentionRows.NONE);
    }

    private static void refusedSchedulesChangeNothing() {
        Checks.sentence("7 schedule: a refused call changes nothing");
        RetentionRows x = Scenes.withRules(5);
        for (int rule = 0; rule < 4; rule++) {
            x.schedule(0, rule);
        }
        x.event(0, 0, 3);
        Scenes.approveTwice(x, 0);
        x.schedule(0, 0);
        Checks.is("approvals behind state", x.about(0, 5), 2);
        x.schedule(0, 4);
        Checks.is("approvals behind full", x.about(0, 5), 2);
        x.schedule(0, 5);
        x.schedule(0, -1);
        Checks.is("approvals behind none", x.about(0, 5), 2);
        x.schedule(1, 0);
        Checks.is("approvals behind another's", x.about(0, 5), 2);
        Checks.is("it can be disposed of", x.dispose(0, 0, 3), 1);
    }
}
