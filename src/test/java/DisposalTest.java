/** Promises 13 to 17: approvals, disposals, certificates, what is told of them, and history. */
public final class DisposalTest {
    public static void main(String[] args) {
        approvals();
        wrongApprovals();
        approvalsTakenAway();
        approvalsKept();
        obstaclesInOrder();
        wrongDisposals();
        disposalLeavesAMark();
        refusedDisposalLeavesNone();
        certificates();
        certificateOfTheLatest();
        historyOfAll();
        Checks.end();
    }

    /** Units 0 to 3 are due from day 10 on, to be destroyed; rule 1 is one more, to transfer. */
    private static RetentionRows withDueUnits() {
        RetentionRows x = new RetentionRows();
        Checks.rule(x, "made 0 destroy");
        Checks.rule(x, "used 0 transfer");
        for (int unit = 0; unit < 4; unit++) {
            x.event(unit, 0, 10);
            x.schedule(unit, 0);
        }
        return x;
    }

    private static void approveTwice(RetentionRows x, int unit) {
        Checks.is("first approval", x.approve(unit, 1), 1);
        Checks.is("second approval", x.approve(unit, 2), 2);
    }

    private static void approvals() {
        RetentionRows x = withDueUnits();
        Checks.is("person 0", x.approve(0, 0), 1);
        Checks.is("told of it", x.about(0, 5), 1);
        Checks.is("person 0 again", x.approve(0, 0), RetentionRows.STATE);
        Checks.is("still one", x.about(0, 5), 1);
        Checks.is("person 99", x.approve(0, 99), 2);
        Checks.is("a third person", x.approve(0, 50), RetentionRows.STATE);
        Checks.is("person 99 again", x.approve(0, 99), RetentionRows.STATE);
        Checks.is("person 0 once more", x.approve(0, 0), RetentionRows.STATE);
        Checks.is("still two", x.about(0, 5), 2);
        Checks.is("another unit", x.approve(1, 0), 1);
        Checks.is("a unit without a rule", x.approve(59, 0), 1);
    }

    private static void wrongApprovals() {
        RetentionRows x = withDueUnits();
        Checks.is("unit -1", x.approve(-1, 0), RetentionRows.NONE);
        Checks.is("unit 60", x.approve(60, 0), RetentionRows.NONE);
        Checks.is("none before range", x.approve(60, 100), RetentionRows.NONE);
        Checks.is("person -1", x.approve(0, -1), RetentionRows.RANGE);
        Checks.is("person 100", x.approve(0, 100), RetentionRows.RANGE);
        approveTwice(x, 0);
        Checks.is("range before state", x.approve(0, 100), RetentionRows.RANGE);
        Checks.is("disposed of", x.dispose(0, 0, 10), 1);
        Checks.is("approving it then", x.approve(0, 3), RetentionRows.STATE);
        x.except(0, 0);
        Checks.is("without approvals too", x.approve(0, 3), RetentionRows.STATE);
    }

    private static void approvalsTakenAway() {
        RetentionRows x = withDueUnits();
        approveTwice(x, 0);
        x.schedule(0, 1);
        Checks.is("by a rule more", x.about(0, 5), 0);
        approveTwice(x, 0);
        x.event(0, 0, 10);
        Checks.is("by an event, though it is the same", x.about(0, 5), 0);
        approveTwice(x, 0);
        x.hold(0, 0, 0);
        Checks.is("by a hold", x.about(0, 5), 0);
        approveTwice(x, 0);
        x.except(0, 0);
        Checks.is("by an exception", x.about(0, 5), 0);
        x.approve(0, 7);
        x.except(0, 0);
        Checks.is("the same person may again", x.approve(0, 7), 1);
    }

    private static void approvalsKept() {
        RetentionRows x = withDueUnits();
        approveTwice(x, 0);
        x.schedule(1, 1);
        x.event(1, 0, 10);
        x.hold(1, 0, 0);
        x.except(1, 0);
        Checks.is("what other units are told", x.about(0, 5), 2);
        x.schedule(0, 0);
        x.schedule(0, 5);
        x.event(0, 4, 0);
        x.event(0, 0, -1);
        x.hold(0, 4, 0);
        x.hold(0, 0, -2);
        x.except(0, -1);
        Checks.is("what is refused", x.about(0, 5), 2);
        x.breaks(0, true);
        x.breaks(0, false);
        x.change(0, 1, 500);
        x.due(10);
        x.dispose(0, 1, 10);
        Checks.is("what is no telling of it", x.about(0, 5), 2);
    }

    private static void obstaclesInOrder() {
        RetentionRows x = withDueUnits();
        x.schedule(0, 1);
        approveTwice(x, 3);
        Checks.is("unit 3", x.dispose(3, 0, 10), 1);
        x.breaks(0, true);
        x.hold(0, 2, 20);
        Checks.is("1 before 2 and 3", x.dispose(3, 1, 10), -11);
        Checks.is("2 before 3", x.dispose(0, 0, 9), -12);
        x.certificate(3, 1);
        Checks.is("3 before 4", x.dispose(0, 0, 9), -13);
        x.breaks(0, false);
        Checks.is("4, never due", x.dispose(0, 0, 15), -14);
        x.event(0, 1, 12);
        Checks.is("4 before 5", x.dispose(0, 0, 11), -14);
        x.except(0, 13);
        Checks.is("4, an exception", x.dispose(0, 0, 13), -14);
        Checks.is("5 before 6", x.dispose(0, 0, 20), -15);
        Checks.is("6 before 7", x.dispose(0, 0, 21), -16);
        x.approve(0, 1);
        Checks.is("6 with one approval", x.dispose(0, 0, 21), -16);
        x.approve(0, 2);
        Checks.is("7", x.dispose(0, 0, 21), -17);
        Checks.is("none", x.dispose(0, 1, 21), 1);
        Checks.is("1 at once", x.dispose(0, 1, 21), -11);
    }

    private static void wrongDisposals() {
        RetentionRows x = withDueUnits();
        approveTwice(x, 0);
        Checks.is("unit -1", x.dispose(-1, 0, 10), RetentionRows.NONE);
        Checks.is("unit 60", x.dispose(60, 0, 10), RetentionRows.NONE);
        Checks.is("none before range", x.dispose(60, 2, -1), RetentionRows.NONE);
        Checks.is("action -1", x.dispose(0, -1, 10), RetentionRows.RANGE);
        Checks.is("action 2", x.dispose(0, 2, 10), RetentionRows.RANGE);
        Checks.is("day -1", x.dispose(0, 0, -1), RetentionRows.RANGE);
        Checks.is("day 1000001", x.dispose(0, 0, 1000001), RetentionRows.RANGE);
        Checks.is("not disposed of", x.about(0, 6), 0);
        Checks.is("the last day", x.dispose(0, 0, 1000000), 1);
        Checks.is("range before what stands against it", x.dispose(0, 2, 10), RetentionRows.RANGE);
    }

    private static void disposalLeavesAMark() {
        RetentionRows x = withDueUnits();
        approveTwice(x, 2);
        Checks.is("due before", x.due(10), 4);
        Checks.is("disposed of", x.dispose(2, 0, 10), 1);
        Checks.is("about 6", x.about(2, 6), 1);
        Checks.is("about 7", x.about(2, 7), 10);
        Checks.is("about 8", x.about(2, 8), -1);
        Checks.is("about 5", x.about(2, 5), 2);
        Checks.is("another's 6", x.about(1, 6), 0);
        Checks.is("another's 7", x.about(1, 7), -1);
        Checks.is("the list is as it was", Checks.at(x, 2, 0), 2);
        Checks.is("due behind it", x.due(10), 3);
        Checks.is("its place", Checks.at(x, 2, 0), 3);
        RetentionRows y = new RetentionRows();
        Checks.rule(y, "made 0 transfer");
        y.event(0, 0, 0);
        y.schedule(0, 0);
        approveTwice(y, 0);
        Checks.is("disposed of on day 0", y.dispose(0, 1, 0), 1);
        Checks.is("is disposed", y.about(0, 6), 1);
        Checks.is("on day 0", y.about(0, 7), 0);
    }

    private static void refusedDisposalLeavesNone() {
        RetentionRows x = withDueUnits();
        x.approve(0, 1);
        Checks.is("refused", x.dispose(0, 0, 10), -16);
        Checks.is("about 6", x.about(0, 6), 0);
        Checks.is("about 7", x.about(0, 7), -1);
        Checks.is("history", Checks.history(x, 0), Checks.THROWN);
        Checks.is("still due", x.due(10), 4);
    }

    private static void certificates() {
        RetentionRows x = withDueUnits();
        approveTwice(x, 0);
        Checks.is("unit -1", x.certificate(-1, 1), RetentionRows.NONE);
        Checks.is("unit 60", x.certificate(60, 0), RetentionRows.NONE);
        Checks.is("number 0", x.certificate(0, 0), RetentionRows.RANGE);
        Checks.is("number 1000001", x.certificate(0, 1000001), RetentionRows.RANGE);
        Checks.is("number -1", x.certificate(0, -1), RetentionRows.RANGE);
        Checks.is("not disposed of", x.certificate(0, 1), RetentionRows.STATE);
        x.dispose(0, 0, 10);
        Checks.is("range behind it too", x.certificate(0, 0), RetentionRows.RANGE);
        Checks.is("the largest number", x.certificate(0, 1000000), 1);
        Checks.is("a second one", x.certificate(0, 2), RetentionRows.STATE);
        Checks.is("range before state", x.certificate(0, 0), RetentionRows.RANGE);
        Checks.is("the first is kept", x.about(0, 8), 1000000);
        approveTwice(x, 1);
        x.dispose(1, 0, 10);
        Checks.is("the smallest number", x.certificate(1, 1), 1);
        Checks.is("its number", x.about(1, 8), 1);
        approveTwice(x, 2);
        x.dispose(2, 0, 10);
        Checks.is("a number that another has", x.certificate(2, 1), 1);
    }

    /** Latest is who was disposed of last, though another's day of it is later. */
    private static void certificateOfTheLatest() {
        RetentionRows x = withDueUnits();
        for (int unit = 0; unit < 3; unit++) {
            approveTwice(x, unit);
        }
        Checks.is("on day 500", x.dispose(2, 0, 500), 1);
        Checks.is("none yet", x.dispose(1, 0, 10), -12);
        x.certificate(2, 3);
        Checks.is("on day 10", x.dispose(1, 0, 10), 1);
        Checks.is("the latest has none", x.dispose(0, 0, 600), -12);
        Checks.is("the first has one", x.certificate(2, 4), RetentionRows.STATE);
        x.certificate(1, 3);
        Checks.is("now it has", x.dispose(0, 0, 600), 1);
        int[] due = {2, 1, 0};
        for (int i = 0; i < due.length; i++) {
            Checks.is("history " + i, Checks.history(x, i), due[i]);
        }
        int[] places = {-1, 3, 60, Integer.MIN_VALUE, Integer.MAX_VALUE};
        for (int i : places) {
            Checks.is("history " + i, Checks.history(x, i), Checks.THROWN);
        }
    }

    private static void historyOfAll() {
        RetentionRows x = new RetentionRows();
        Checks.rule(x, "made 0 transfer");
        for (int unit = 59; unit >= 0; unit--) {
            x.event(unit, 0, 0);
            x.schedule(unit, 0);
            x.approve(unit, 1);
            x.approve(unit, 2);
            Checks.is("unit " + unit, x.dispose(unit, 1, unit), 1);
            x.certificate(unit, unit + 1);
        }
        for (int i = 0; i < 60; i++) {
            Checks.is("history " + i, Checks.history(x, i), 59 - i);
        }
        Checks.is("history 60", Checks.history(x, 60), Checks.THROWN);
        Checks.is("none is due", x.due(1000000), 0);
    }
}
