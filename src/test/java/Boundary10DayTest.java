/** Promise 10, its boundary cases: NEVER, no such unit or day, failing rules, the edges of days. */
public final class Boundary10DayTest {
    private static final String[] FOUR = {"made 1 destroy", "used 2 transfer", "closed 3 destroy",
        "death 4 transfer"};

    public static void main(String[] args) {
        neverWithoutARule();
        neverWithoutOneEvent();
        noSuchUnit();
        noSuchDay();
        firstAndLastDayOfAsking();
        failsAtEveryPlace();
        failsBeforeNever();
        noSuchDayBeforeFails();
        latestAtEveryPlace();
        leastAndMostDueDays();
        yearsOnTheDayOfAsking();
        askingChangesNothing();
        ofADisposedUnit();
        Checks.end();
    }

    /** Unit 0 has all four events, on day 0, and the four rules. */
    private static RetentionRows withFourRules() {
        RetentionRows x = Scenes.withRules(FOUR);
        for (int i = 0; i < 4; i++) {
            x.event(0, i, 0);
            x.schedule(0, i);
        }
        return x;
    }

    private static void neverWithoutARule() {
        Checks.sentence("10 day: NEVER (-1) without a rule");
        RetentionRows x = Scenes.withRules(FOUR);
        for (int kind = 0; kind < 4; kind++) {
            x.event(0, kind, 0);
        }
        Checks.is("with all events", x.day(0, 0), -1);
        x.schedule(1, 0);
        Checks.is("another has a rule", x.day(0, Scenes.LAST_DAY), -1);
        Checks.is("the last unit", x.day(59, 0), -1);
    }

    private static void neverWithoutOneEvent() {
        Checks.sentence("10 day: NEVER (-1) if one of its rules is NEVER");
        for (int missing = 0; missing < 4; missing++) {
            RetentionRows x = Scenes.withRules(FOUR);
            for (int i = 0; i < 4; i++) {
                x.schedule(0, i);
                if (i != missing) {
                    x.event(0, i, 10);
                }
            }
            Checks.is("without event " + missing, x.day(0, 0), -1);
            Checks.is("not due", x.due(Scenes.LAST_DAY), 0);
            x.event(0, missing, 10);
            Checks.is("with it", x.day(0, 0), 10 + 4 * 365);
        }
    }

    private static void noSuchUnit() {
        Checks.sentence("10 day: -2 if there is no such unit");
        RetentionRows x = withFourRules();
        for (int unit : Scenes.NO_UNITS) {
            Checks.is("unit " + unit, x.day(unit, 0), -2);
            Checks.is("unit " + unit + ", no such day", x.day(unit, -1), -2);
        }
    }

    private static void noSuchDay() {
        Checks.sentence("10 day: -2 if there is no such day");
        RetentionRows x = withFourRules();
        for (int day : Scenes.NO_DAYS) {
            Checks.is("day " + day, x.day(0, day), -2);
            Checks.is("day " + day + ", no rule", x.day(1, day), -2);
        }
    }

    private static void firstAndLastDayOfAsking() {
        Checks.sentence("10 day: asked on a day, 0 .. 1000000; UNITS are 0 .. 59");
        RetentionRows x = Scenes.withDueUnits(60, 5);
        for (int unit = 0; unit < 60; unit++) {
            Checks.is("unit " + unit + " on day 0", x.day(unit, 0), 5);
            Checks.is("unit " + unit + " on the last day", x.day(unit, Scenes.LAST_DAY), 5);
        }
    }

    private static void failsAtEveryPlace() {
        Checks.sentence("10 day: -3 if one of its rules FAILS");
        RetentionRows x = withFourRules();
        for (int rule = 0; rule < 4; rule++) {
            x.breaks(rule, true);
            Checks.is("rule " + rule + " broken", x.day(0, 0), -3);
            Checks.is("not due", x.due(Scenes.LAST_DAY), 0);
            x.breaks(rule, false);
            Checks.is("rule " + rule + " mended", x.day(0, 0), 4 * 365);
        }
        Checks.rule(x, "made 1 destroy");
        x.breaks(4, true);
        Checks.is("a rule that it does not have", x.day(0, 0), 4 * 365);
    }

    private static void failsBeforeNever() {
        Checks.sentence("10 day: -3 if one FAILS (looked at before NEVER)");
        for (int broken = 0; broken < 4; broken++) {
            for (int missing = 0; missing < 4; missing++) {
                RetentionRows x = Scenes.withRules(FOUR);
                for (int i = 0; i < 4; i++) {
                    x.schedule(0, i);
                    if (i != missing) {
                        x.event(0, i, 10);
                    }
                }
                x.breaks(broken, true);
                Checks.is("rule " + broken + " broken, event " + missing + " not there",
                        x.day(0, 0), -3);
            }
        }
        RetentionRows y = Scenes.withRules(1);
        y.breaks(0, true);
        Checks.is("broken, but not its rule", y.day(0, 0), -1);
        y.schedule(0, 0);
        Checks.is("its only rule, without an event", y.day(0, 0), -3);
    }

    private static void noSuchDayBeforeFails() {
        Checks.sentence("10 day: -2; -3, the first of these");
        RetentionRows x = withFourRules();
        x.breaks(0, true);
        Checks.is("no such day", x.day(0, -1), -2);
        Checks.is("no day behind the last", x.day(0, 1000001), -2);
        Checks.is("a day", x.day(0, 0), -3);
    }

    private static void latestAtEveryPlace() {
        Checks.sentence("Terms: the DUE DAY: the latest of its rules' days");
        for (int latest = 0; latest < 4; latest++) {
            RetentionRows x = withFourRules();
            x.event(0, latest, 5000);
            Checks.is("by rule " + latest, x.day(0, 0), 5000 + (latest + 1) * 365);
            x.event(0, latest, (3 - latest) * 365);
            Checks.is("as the last", x.day(0, 0), 4 * 365);
            x.event(0, latest, (3 - latest) * 365 + 1);
            Checks.is("a day behind the last", x.day(0, 0), 4 * 365 + 1);
        }
    }

    private static void leastAndMostDueDays() {
        Checks.sentence("Terms: the day of its event and YEARS * 365 days more");
        RetentionRows x = Scenes.withRules("made 0 destroy", "used 999 destroy",
                "closed 1 destroy");
        x.event(0, 0, 0);
        x.schedule(0, 0);
        Checks.is("the least", x.day(0, 0), 0);
        x.event(0, 0, Scenes.LAST_DAY);
        Checks.is("no years behind the last day", x.day(0, 0), Scenes.LAST_DAY);
        x.event(1, 1, 0);
        x.schedule(1, 1);
        Checks.is("999 years", x.day(1, 0), 364635);
        x.event(1, 1, Scenes.LAST_DAY);
        Checks.is("the most", x.day(1, 0), 1364635);
        x.event(2, 2, 999636);
        x.schedule(2, 2);
        Checks.is("a day behind the last day", x.day(2, 0), 1000001);
    }

    private static void yearsOnTheDayOfAsking() {
        Checks.sentence("Terms: YEARS: those that the rule has on the day on which it is asked");
        RetentionRows x = Scenes.withRules("made 2 destroy", "made 1 transfer");
        x.event(0, 0, 100);
        x.schedule(0, 0);
        x.schedule(0, 1);
        x.change(0, 0, 50);
        x.change(1, 5, 60);
        Checks.is("on day 49", x.day(0, 49), 830);
        Checks.is("on day 50", x.day(0, 50), 465);
        Checks.is("on day 59", x.day(0, 59), 465);
        Checks.is("on day 60", x.day(0, 60), 1925);
        Checks.is("on day 49 again", x.day(0, 49), 830);
    }

    private static void askingChangesNothing() {
        Checks.sentence("10 day: asking changes nothing");
        RetentionRows x = Scenes.withDueUnits(1, 5);
        x.due(5);
        Scenes.approveTwice(x, 0);
        Checks.is("asked", x.day(0, 4), 5);
        Checks.is("asked wrongly", x.day(0, -1), -2);
        Checks.is("approvals", x.about(0, 5), 2);
        Checks.is("the list", Checks.at(x, 0, 1), 5);
    }

    private static void ofADisposedUnit() {
        Checks.sentence("10 day: a unit's DUE DAY, DISPOSED or not");
        RetentionRows x = Scenes.withDestroyedUnit(7);
        Checks.is("its due day", x.day(0, 0), 7);
        x.breaks(0, true);
        Checks.is("its rule fails", x.day(0, 0), -3);
    }
}
