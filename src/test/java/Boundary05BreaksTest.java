/** Promise 5, its boundary cases: whether a rule was broken, and rules that are not there. */
public final class Boundary05BreaksTest {
    public static void main(String[] args) {
        notAtFirst();
        whetherItWas();
        brokenFromNowOn();
        notBrokenAnyMore();
        noneSuch();
        noneSuchBreaksNoLaterRule();
        firstAndLastRule();
        eachRuleAlone();
        breakingLeavesTheRest();
        Checks.end();
    }

    private static void notAtFirst() {
        Checks.sentence("Terms: a rule may be BROKEN (not at first)");
        for (boolean on : new boolean[] {true, false}) {
            RetentionRows x = Scenes.withRules(20);
            for (int rule = 0; rule < 20; rule++) {
                Checks.is("rule " + rule, x.breaks(rule, on), false);
            }
        }
    }

    private static void whetherItWas() {
        Checks.sentence("5 breaks: whether it was");
        RetentionRows x = Scenes.withRules(1);
        boolean[] told = {false, false, true, true, true, false, false, true, false};
        boolean before = false;
        for (int i = 0; i < told.length; i++) {
            Checks.is("call " + i, x.breaks(0, told[i]), before);
            before = told[i];
        }
    }

    private static void brokenFromNowOn() {
        Checks.sentence("5 breaks: a rule is BROKEN from now on");
        RetentionRows x = Scenes.withDueUnits(1, 0);
        x.breaks(0, true);
        Checks.is("day", x.day(0, 0), -3);
        Checks.is("due", x.due(Scenes.LAST_DAY), 0);
        Checks.is("dispose", x.dispose(0, 0, 0), -13);
        x.breaks(0, true);
        Checks.is("told twice", x.day(0, 0), -3);
        x.event(0, 0, 5);
        x.change(0, 1, 1);
        x.schedule(1, 0);
        Checks.is("whatever is told behind it", x.day(0, Scenes.LAST_DAY), -3);
        Checks.is("for another unit too", x.day(1, 0), -3);
    }

    private static void notBrokenAnyMore() {
        Checks.sentence("5 breaks: or not");
        RetentionRows x = Scenes.withDueUnits(1, 4);
        x.breaks(0, true);
        x.breaks(0, true);
        x.breaks(0, false);
        Checks.is("day", x.day(0, 0), 4);
        Checks.is("due", x.due(4), 1);
        Checks.is("dispose", x.dispose(0, 0, 4), -16);
    }

    private static void noneSuch() {
        Checks.sentence("5 breaks: false if there is none such");
        RetentionRows x = Scenes.withRules(2);
        x.breaks(0, true);
        x.breaks(1, true);
        for (int rule : new int[] {-1, 2, 19, 20, Integer.MIN_VALUE, Integer.MAX_VALUE}) {
            for (int i = 0; i < 2; i++) {
                Checks.is("rule " + rule + ", on", x.breaks(rule, true), false);
                Checks.is("rule " + rule + ", on again", x.breaks(rule, true), false);
                Checks.is("rule " + rule + ", off", x.breaks(rule, false), false);
            }
        }
        Checks.is("rule 0 as it was", x.breaks(0, true), true);
        Checks.is("rule 1 as it was", x.breaks(1, true), true);
        RetentionRows y = Scenes.withRules(20);
        y.breaks(20, true);
        Checks.is("rule 20 of 20", y.breaks(20, true), false);
        Checks.is("rule 19 as it was", y.breaks(19, true), false);
    }

    private static void noneSuchBreaksNoLaterRule() {
        Checks.sentence("5 breaks: a rule that is not there is not broken");
        RetentionRows x = new RetentionRows();
        for (int rule = 0; rule < 20; rule++) {
            x.breaks(rule, true);
        }
        for (int rule = 0; rule < 20; rule++) {
            Checks.rule(x, "made 0 destroy");
            Checks.is("rule " + rule, x.breaks(rule, false), false);
        }
    }

    private static void firstAndLastRule() {
        Checks.sentence("5 breaks: RULES are 0 .. 19");
        RetentionRows x = Scenes.withRules(20);
        for (int rule : new int[] {0, 19}) {
            x.breaks(rule, true);
            Checks.is("rule " + rule, x.breaks(rule, true), true);
        }
        Checks.is("rule 1", x.breaks(1, true), false);
        Checks.is("rule 18", x.breaks(18, true), false);
    }

    private static void eachRuleAlone() {
        Checks.sentence("5 breaks: a rule, not another");
        RetentionRows x = Scenes.withRules("made 1 destroy", "made 2 destroy", "made 3 destroy");
        for (int unit = 0; unit < 3; unit++) {
            x.event(unit, 0, 0);
            x.schedule(unit, unit);
        }
        x.breaks(1, true);
        Checks.is("by rule 0", x.day(0, 0), 365);
        Checks.is("by rule 1", x.day(1, 0), -3);
        Checks.is("by rule 2", x.day(2, 0), 1095);
        x.breaks(2, true);
        x.breaks(1, false);
        Checks.is("by rule 1, mended", x.day(1, 0), 730);
        Checks.is("by rule 2, broken", x.day(2, 0), -3);
    }

    private static void breakingLeavesTheRest() {
        Checks.sentence("Terms: what takes APPROVALS away (a broken rule does not)");
        RetentionRows x = Scenes.withDueUnits(1, 0);
        x.change(0, 2, 7);
        Scenes.approveTwice(x, 0);
        x.breaks(0, true);
        x.breaks(0, false);
        Checks.is("approvals", x.about(0, 5), 2);
        Checks.is("years before the change", x.day(0, 6), 0);
        Checks.is("years behind it", x.day(0, 7), 730);
    }
}
