/** Promises 4 and 5: a rule's years change, and a rule breaks. */
public final class RuleStateTest {
    public static void main(String[] args) {
        yearsByDays();
        wrongChanges();
        changedAlready();
        fullOfChanges();
        changesOfOtherRules();
        changeLeavesApprovals();
        breaking();
        breakingNone();
        Checks.end();
    }

    private static RetentionRows withRule(String text) {
        RetentionRows x = new RetentionRows();
        Checks.rule(x, text);
        x.event(1, 0, 100);
        x.schedule(1, 0);
        return x;
    }

    private static void yearsByDays() {
        RetentionRows x = withRule("made 3 destroy");
        Checks.is("change(0, 5, 10)", x.change(0, 5, 10), 1);
        Checks.is("change(0, 0, 11)", x.change(0, 0, 11), 1);
        Checks.is("change(0, 999, 1000000)", x.change(0, 999, 1000000), 1);
        Checks.is("before the changes", x.day(1, 9), 100 + 3 * 365);
        Checks.is("on the first change's day", x.day(1, 10), 100 + 5 * 365);
        Checks.is("on the second change's day", x.day(1, 11), 100);
        Checks.is("before the third change", x.day(1, 999999), 100);
        Checks.is("on the third change's day", x.day(1, 1000000), 100 + 999 * 365);
        RetentionRows y = withRule("made 3 destroy");
        Checks.is("change from day 0 on", y.change(0, 1, 0), 1);
        Checks.is("changed on day 0", y.day(1, 0), 465);
    }

    private static void wrongChanges() {
        RetentionRows x = withRule("made 3 destroy");
        Checks.is("rule -1", x.change(-1, 1, 1), RetentionRows.NONE);
        Checks.is("rule 1", x.change(1, 1, 1), RetentionRows.NONE);
        Checks.is("rule 20", x.change(20, 1, 1), RetentionRows.NONE);
        Checks.is("none before range", x.change(1, -1, -1), RetentionRows.NONE);
        Checks.is("years -1", x.change(0, -1, 1), RetentionRows.RANGE);
        Checks.is("years 1000", x.change(0, 1000, 1), RetentionRows.RANGE);
        Checks.is("day -1", x.change(0, 1, -1), RetentionRows.RANGE);
        Checks.is("day 1000001", x.change(0, 1, 1000001), RetentionRows.RANGE);
        Checks.is("nothing was changed", x.day(1, 1000000), 100 + 3 * 365);
    }

    private static void changedAlready() {
        RetentionRows x = withRule("made 3 destroy");
        x.change(0, 1, 50);
        Checks.is("from the same day on", x.change(0, 2, 50), RetentionRows.STATE);
        Checks.is("from an earlier day on", x.change(0, 2, 49), RetentionRows.STATE);
        Checks.is("range before state", x.change(0, 1000, 49), RetentionRows.RANGE);
        Checks.is("years as they were", x.day(1, 50), 465);
        Checks.is("from a later day on", x.change(0, 2, 51), 1);
    }

    private static void fullOfChanges() {
        RetentionRows x = withRule("made 3 destroy");
        for (int i = 1; i <= 5; i++) {
            Checks.is("change " + i, x.change(0, i, i * 10), 1);
        }
        Checks.is("change 6", x.change(0, 6, 60), RetentionRows.FULL);
        Checks.is("state before full", x.change(0, 6, 50), RetentionRows.STATE);
        Checks.is("range before full", x.change(0, 6, 1000001), RetentionRows.RANGE);
        Checks.is("the fifth change holds", x.day(1, 60), 100 + 5 * 365);
    }

    private static void changesOfOtherRules() {
        RetentionRows x = withRule("made 3 destroy");
        Checks.rule(x, "made 3 transfer");
        x.change(0, 1, 50);
        Checks.is("the other rule's change", x.change(1, 2, 20), 1);
        x.event(2, 0, 0);
        x.schedule(2, 1);
        Checks.is("the other rule's years", x.day(2, 50), 730);
        Checks.is("the one rule's years", x.day(1, 50), 465);
    }

    private static void changeLeavesApprovals() {
        RetentionRows x = withRule("made 3 destroy");
        x.approve(1, 5);
        x.change(0, 4, 4);
        x.breaks(0, true);
        Checks.rule(x, "made 9 destroy");
        Checks.is("approvals", x.about(1, 5), 1);
    }

    private static void breaking() {
        RetentionRows x = withRule("made 3 destroy");
        Checks.is("not broken at first", x.breaks(0, false), false);
        Checks.is("still not", x.breaks(0, true), false);
        Checks.is("broken, and again", x.breaks(0, true), true);
        Checks.is("day of a broken rule", x.day(1, 0), -3);
        Checks.is("none due by a broken rule", x.due(1000000), 0);
        Checks.is("mended", x.breaks(0, false), true);
        Checks.is("day of a mended rule", x.day(1, 0), 1195);
        Checks.is("due by a mended rule", x.due(1000000), 1);
        x.breaks(0, true);
        Checks.is("a broken rule is scheduled", x.schedule(2, 0), 1);
        Checks.is("a broken rule is changed", x.change(0, 1, 1), 1);
        Checks.is("it fails for that unit too", x.day(2, 0), -3);
    }

    private static void breakingNone() {
        RetentionRows x = withRule("made 3 destroy");
        int[] rules = {-1, 1, 19, 20, Integer.MAX_VALUE, Integer.MIN_VALUE};
        for (int rule : rules) {
            Checks.is("breaks(" + rule + ", true)", x.breaks(rule, true), false);
            Checks.is("breaks(" + rule + ", true) again", x.breaks(rule, true), false);
        }
        Checks.rule(x, "made 3 destroy");
        Checks.is("a rule made later is not broken", x.breaks(1, false), false);
    }
}
