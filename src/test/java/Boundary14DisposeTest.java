/** Promise 14, its boundary cases: each obstacle, all that stand together, and refused calls. */
public final class Boundary14DisposeTest {
    private static final int[] NO_ACTIONS = {-1, 2, 3, Integer.MIN_VALUE, Integer.MAX_VALUE};

    public static void main(String[] args) {
        noSuchUnit();
        noSuchAction();
        noSuchDay();
        firstAndLastDay();
        firstAndLastUnit();
        disposedAlready();
        noCertificateOfTheLatest();
        theLatestAlone();
        aRuleFails();
        notDue();
        aHoldLasts();
        notTwoApprovals();
        theOtherAction();
        theOtherActionOfSeveralRules();
        theFirstOfThese();
        orderOfRefusals();
        refusedDisposalsChangeNothing();
        Checks.end();
    }

    private static RetentionRows approved(int count, int day) {
        RetentionRows x = Scenes.withDueUnits(count, day);
        for (int unit = 0; unit < count; unit++) {
            Scenes.approveTwice(x, unit);
        }
        return x;
    }

    private static void noSuchUnit() {
        Checks.sentence("14 dispose: NONE");
        RetentionRows x = approved(1, 0);
        for (int unit : Scenes.NO_UNITS) {
            Checks.is("unit " + unit, x.dispose(unit, 0, 0), RetentionRows.NONE);
        }
        Checks.is("none was", Checks.history(x, 0), Checks.THROWN);
    }

    private static void noSuchAction() {
        Checks.sentence("14 dispose: RANGE if action can't be");
        RetentionRows x = approved(1, 0);
        for (int action : NO_ACTIONS) {
            Checks.is("action " + action, x.dispose(0, action, 0), RetentionRows.RANGE);
        }
        Checks.is("it was not", x.about(0, 6), 0);
    }

    private static void noSuchDay() {
        Checks.sentence("14 dispose: RANGE if day can't be");
        RetentionRows x = approved(1, 0);
        for (int day : Scenes.NO_DAYS) {
            Checks.is("day " + day, x.dispose(0, 0, day), RetentionRows.RANGE);
        }
        Checks.is("it was not", x.about(0, 6), 0);
    }

    private static void firstAndLastDay() {
        Checks.sentence("14 dispose: on a day, 0 .. 1000000");
        for (int day : new int[] {0, 1, 999999, Scenes.LAST_DAY}) {
            RetentionRows x = approved(1, 0);
            Checks.is("day " + day, x.dispose(0, 0, day), 1);
            Checks.is("it was", x.about(0, 6), 1);
            Checks.is("its day", x.about(0, 7), day);
        }
    }

    private static void firstAndLastUnit() {
        Checks.sentence("14 dispose: UNITS are 0 .. 59");
        RetentionRows x = Scenes.withRules("made 0 destroy");
        for (int unit : new int[] {59, 0}) {
            Scenes.makeDue(x, unit, 0);
            Scenes.approveTwice(x, unit);
            Checks.is("unit " + unit, x.dispose(unit, 0, 3), 1);
            Checks.is("it was", x.about(unit, 6), 1);
            x.certificate(unit, 1);
        }
        Checks.is("no other", x.about(1, 6), 0);
    }

    private static void disposedAlready() {
        Checks.sentence("14 dispose: 1 it is DISPOSED already");
        RetentionRows x = approved(2, 0);
        x.dispose(0, 0, 5);
        x.certificate(0, 1);
        Checks.is("the same again", x.dispose(0, 0, 5), -11);
        Checks.is("on another day", x.dispose(0, 0, 6), -11);
        Checks.is("with the other action", x.dispose(0, 1, 5), -11);
        Checks.is("its day as it was", x.about(0, 7), 5);
        Checks.is("told once", Checks.history(x, 1), Checks.THROWN);
        Checks.is("another unit", x.dispose(1, 0, 5), 1);
    }

    private static void noCertificateOfTheLatest() {
        Checks.sentence("14 dispose: 2 the unit that was DISPOSED of latest has no CERTIFICATE");
        RetentionRows x = approved(2, 0);
        x.dispose(0, 0, 5);
        Checks.is("it has none", x.dispose(1, 0, 5), -12);
        x.certificate(0, 0);
        x.certificate(0, 1000001);
        x.certificate(1, 1);
        Checks.is("a refused one is none", x.dispose(1, 0, 5), -12);
        x.certificate(0, 1);
        Checks.is("it has one", x.dispose(1, 0, 5), 1);
    }

    private static void theLatestAlone() {
        Checks.sentence("14 dispose: 2 the latest, by what was done last");
        RetentionRows x = approved(4, 0);
        Checks.is("the first of all", x.dispose(3, 0, 900), 1);
        x.certificate(3, 1);
        Checks.is("the second, an earlier day", x.dispose(1, 0, 5), 1);
        Checks.is("the second has none", x.dispose(0, 0, 950), -12);
        Checks.is("nor on an earlier day", x.dispose(0, 0, 4), -12);
        x.certificate(1, 1);
        Checks.is("the third", x.dispose(0, 0, 3), 1);
        Checks.is("the third has none", x.dispose(2, 0, 3), -12);
        x.certificate(0, 1);
        Checks.is("the fourth", x.dispose(2, 0, 3), 1);
    }

    private static void aRuleFails() {
        Checks.sentence("14 dispose: 3 one of its rules FAILS");
        RetentionRows x = Scenes.withRules(5);
        x.event(0, 0, 0);
        for (int rule = 0; rule < 4; rule++) {
            x.schedule(0, rule);
        }
        Scenes.approveTwice(x, 0);
        for (int rule = 0; rule < 4; rule++) {
            x.breaks(rule, true);
            Checks.is("rule " + rule, x.dispose(0, 0, 0), -13);
            x.breaks(rule, false);
        }
        x.breaks(4, true);
        Checks.is("a rule that it does not have", x.dispose(0, 0, 0), 1);
    }

    private static void notDue() {
        Checks.sentence("14 dispose: 4 it is not DUE on that day");
        RetentionRows x = approved(1, 10);
        Checks.is("the day before", x.dispose(0, 0, 9), -14);
        Checks.is("day 0", x.dispose(0, 0, 0), -14);
        x.except(0, 12);
        Scenes.approveTwice(x, 0);
        Checks.is("the exception's last day", x.dispose(0, 0, 12), -14);
        x.change(0, 1, 13);
        Checks.is("with more years", x.dispose(0, 0, 13), -14);
        Checks.is("the day before they are over", x.dispose(0, 0, 374), -14);
        Checks.is("the day", x.dispose(0, 0, 375), 1);
        RetentionRows y = Scenes.withRules(1);
        Scenes.approveTwice(y, 0);
        Checks.is("without a rule", y.dispose(0, 0, Scenes.LAST_DAY), -14);
        y.schedule(0, 0);
        Scenes.approveTwice(y, 0);
        Checks.is("without its event", y.dispose(0, 0, Scenes.LAST_DAY), -14);
    }

    private static void aHoldLasts() {
        Checks.sentence("14 dispose: 5 a HOLD lasts on it");
        for (int kind = 0; kind < 4; kind++) {
            RetentionRows x = Scenes.withDueUnits(1, 0);
            x.hold(0, kind, 20);
            Scenes.approveTwice(x, 0);
            Checks.is("kind " + kind + ", day 0", x.dispose(0, 0, 0), -15);
            Checks.is("kind " + kind + ", its last day", x.dispose(0, 0, 20), -15);
            Checks.is("kind " + kind + ", behind it", x.dispose(0, 0, 21), 1);
            RetentionRows y = Scenes.withDueUnits(1, 0);
            y.hold(0, kind, -1);
            Scenes.approveTwice(y, 0);
            Checks.is("kind " + kind + ", no end", y.dispose(0, 0, Scenes.LAST_DAY), -15);
        }
    }

    private static void notTwoApprovals() {
        Checks.sentence("14 dispose: 6 it has not two APPROVALS");
        RetentionRows x = Scenes.withDueUnits(2, 0);
        Checks.is("none", x.dispose(0, 0, 0), -16);
        x.approve(0, 1);
        Checks.is("one", x.dispose(0, 0, 0), -16);
        x.approve(0, 1);
        Checks.is("one, twice", x.dispose(0, 0, 0), -16);
        x.approve(1, 2);
        Checks.is("another unit's", x.dispose(0, 0, 0), -16);
        x.approve(0, 2);
        Checks.is("two", x.dispose(0, 0, 0), 1);
    }

    private static void theOtherAction() {
        Checks.sentence("14 dispose: 7 it is the other ACTION (0 destroy, 1 transfer)");
        String[] texts = {"made 0 destroy", "made 0 transfer"};
        for (int action = 0; action < 2; action++) {
            RetentionRows x = Scenes.withRules(texts[action]);
            Scenes.makeDue(x, 0, 0);
            Scenes.approveTwice(x, 0);
            Checks.is(texts[action] + ", the other", x.dispose(0, 1 - action, 0), -17);
            Checks.is("it was not", x.about(0, 6), 0);
            Checks.is(texts[action], x.dispose(0, action, 0), 1);
        }
    }

    private static void theOtherActionOfSeveralRules() {
        Checks.sentence("14 dispose: 7 the ACTION of the rule with that day, on that day");
        RetentionRows x = Scenes.withRules("made 0 destroy", "made 0 transfer");
        Scenes.makeDue(x, 0, 0);
        x.schedule(0, 1);
        x.change(1, 1, 500);
        x.change(0, 2, 1000);
        Scenes.approveTwice(x, 0);
        Checks.is("the first of equal days", x.dispose(0, 1, 499), -17);
        Checks.is("the later one", x.dispose(0, 0, 500), -17);
        Checks.is("the later one again", x.dispose(0, 1, 1000), -17);
        Checks.is("its action", x.dispose(0, 1, 999), 1);
    }

    /** All 128 choices out of the seven obstacles, each made alone in an object of its own. */
    private static void theFirstOfThese() {
        Checks.sentence("14 dispose: what stands against it is told, the first of these");
        for (int choice = 0; choice < 128; choice++) {
            boolean[] stands = new boolean[8];
            int first = 0;
            for (int obstacle = 7; obstacle >= 1; obstacle--) {
                stands[obstacle] = (choice >> obstacle - 1 & 1) == 1;
                first = stands[obstacle] ? obstacle : first;
            }
            Checks.is("obstacles by the bits of " + choice, disposeAgainst(stands),
                    first == 0 ? 1 : -10 - first);
        }
    }

    /** Unit 0 is due from day 10 on and asked about on day 12, or on day 9 if it is not due. */
    private static int disposeAgainst(boolean[] stands) {
        RetentionRows x = Scenes.withDueUnits(2, 10);
        if (stands[5]) {
            x.hold(0, 1, 15);
        }
        if (!stands[6] || stands[1]) {
            Scenes.approveTwice(x, 0);
        }
        if (stands[1]) {
            x.dispose(0, 0, 20);
            x.certificate(0, 1);
        }
        if (stands[1] && stands[6]) {
            x.except(0, 0);
        }
        if (stands[2]) {
            Scenes.destroy(x, 1, 10);
        }
        if (stands[3]) {
            x.breaks(0, true);
        }
        return x.dispose(0, stands[7] ? 1 : 0, stands[4] ? 9 : 12);
    }

    private static void orderOfRefusals() {
        Checks.sentence("14 dispose: NONE; RANGE, before what stands against it");
        RetentionRows x = approved(2, 0);
        Checks.is("none before action", x.dispose(60, 2, 0), RetentionRows.NONE);
        Checks.is("none before day", x.dispose(-1, 0, -1), RetentionRows.NONE);
        Checks.is("both", x.dispose(0, 2, -1), RetentionRows.RANGE);
        x.dispose(0, 0, 0);
        Checks.is("action before 1", x.dispose(0, 2, 0), RetentionRows.RANGE);
        Checks.is("day before 1", x.dispose(0, 0, -1), RetentionRows.RANGE);
        Checks.is("action before 2", x.dispose(1, -1, 0), RetentionRows.RANGE);
        Checks.is("day before 2", x.dispose(1, 0, 1000001), RetentionRows.RANGE);
        x.certificate(0, 1);
        x.breaks(0, true);
        Checks.is("action before 3", x.dispose(1, 2, 0), RetentionRows.RANGE);
        Checks.is("action before 4", x.dispose(2, 2, 0), RetentionRows.RANGE);
        x.breaks(0, false);
        x.hold(1, 0, -1);
        Checks.is("action before 5 and 6", x.dispose(1, 2, 0), RetentionRows.RANGE);
    }

    private static void refusedDisposalsChangeNothing() {
        Checks.sentence("14 dispose: a refused call changes nothing");
        RetentionRows x = approved(1, 10);
        x.due(10);
        x.dispose(0, 0, 9);
        x.dispose(0, 1, 10);
        x.dispose(0, 2, 10);
        x.breaks(0, true);
        x.dispose(0, 0, 10);
        x.breaks(0, false);
        Checks.is("not disposed of", x.about(0, 6), 0);
        Checks.is("no day of it", x.about(0, 7), -1);
        Checks.is("approvals", x.about(0, 5), 2);
        Checks.is("history", Checks.history(x, 0), Checks.THROWN);
        Checks.is("no certificate", x.certificate(0, 1), RetentionRows.STATE);
        Checks.is("the list", Checks.at(x, 0, 0), 0);
        Checks.is("it is due", x.due(10), 1);
        Checks.is("and can be disposed of", x.dispose(0, 0, 10), 1);
    }
}
