/** Promise 8, its boundary cases: a hold's last day, no end, its kinds, and refused holds. */
public final class Boundary08HoldTest {
    public static void main(String[] args) {
        noSuchUnit();
        everyUnit();
        kindsThatCanNotBe();
        everyKind();
        daysThatCanNotBe();
        theLastDayToo();
        noEnd();
        oneOfAKind();
        kindsBesideEachOther();
        orderOfRefusals();
        refusedHoldsChangeNothing();
        ofADisposedUnit();
        Checks.end();
    }

    /** Nobody has approved: 5 is told while a hold lasts, and 6 when none does. */
    private static void held(RetentionRows x, int unit, int day, boolean due) {
        Checks.is("unit " + unit + " held on day " + day, x.dispose(unit, 0, day), due ? -15 : -16);
    }

    private static void noSuchUnit() {
        Checks.sentence("8 hold: NONE");
        RetentionRows x = Scenes.withDueUnits(60, 0);
        for (int unit : Scenes.NO_UNITS) {
            Checks.is("unit " + unit, x.hold(unit, 0, -1), RetentionRows.NONE);
        }
        for (int unit = 0; unit < 60; unit++) {
            held(x, unit, 0, false);
        }
    }

    private static void everyUnit() {
        Checks.sentence("8 hold: UNITS are 0 .. 59");
        RetentionRows x = Scenes.withDueUnits(60, 0);
        for (int unit = 0; unit < 60; unit++) {
            Checks.is("unit " + unit, x.hold(unit, unit % 4, 100 + unit), 1);
        }
        for (int unit = 0; unit < 60; unit++) {
            held(x, unit, 100 + unit, true);
            held(x, unit, 101 + unit, false);
        }
    }

    private static void kindsThatCanNotBe() {
        Checks.sentence("8 hold: RANGE if there is no such kind");
        RetentionRows x = Scenes.withDueUnits(1, 0);
        for (int kind : Scenes.NO_KINDS) {
            Checks.is("kind " + kind, x.hold(0, kind, 5), RetentionRows.RANGE);
            Checks.is("kind " + kind + ", no end", x.hold(0, kind, -1), RetentionRows.RANGE);
        }
        held(x, 0, 0, false);
    }

    private static void everyKind() {
        Checks.sentence("8 hold: a KIND 0 .. 3");
        for (int kind = 0; kind < 4; kind++) {
            RetentionRows x = Scenes.withDueUnits(1, 0);
            Checks.is("kind " + kind, x.hold(0, kind, 5), 1);
            held(x, 0, 5, true);
            held(x, 0, 6, false);
        }
    }

    private static void daysThatCanNotBe() {
        Checks.sentence("8 hold: RANGE if the day is below -1 or too large");
        RetentionRows x = Scenes.withDueUnits(1, 0);
        int[] days = {-2, -3, 1000001, 1000002, Integer.MIN_VALUE, Integer.MAX_VALUE};
        for (int kind = 0; kind < 4; kind++) {
            for (int day : days) {
                Checks.is("kind " + kind + " until " + day, x.hold(0, kind, day),
                        RetentionRows.RANGE);
            }
        }
        held(x, 0, 0, false);
        held(x, 0, Scenes.LAST_DAY, false);
    }

    private static void theLastDayToo() {
        Checks.sentence("8 hold: lasts until a day (that day too)");
        for (int until : new int[] {0, 1, 500, 999999, Scenes.LAST_DAY}) {
            RetentionRows x = Scenes.withDueUnits(1, 0);
            Checks.is("until " + until, x.hold(0, 2, until), 1);
            held(x, 0, 0, true);
            held(x, 0, until, true);
            if (until < Scenes.LAST_DAY) {
                held(x, 0, until + 1, false);
                held(x, 0, Scenes.LAST_DAY, false);
            }
        }
    }

    private static void noEnd() {
        Checks.sentence("8 hold: or has no end (-1)");
        for (int kind = 0; kind < 4; kind++) {
            RetentionRows x = Scenes.withDueUnits(2, 0);
            Checks.is("kind " + kind, x.hold(0, kind, -1), 1);
            held(x, 0, 0, true);
            held(x, 0, 1, true);
            held(x, 0, Scenes.LAST_DAY, true);
            held(x, 1, Scenes.LAST_DAY, false);
        }
    }

    private static void oneOfAKind() {
        Checks.sentence("8 hold: one of a kind (a new one in place of the one before)");
        for (int kind = 0; kind < 4; kind++) {
            RetentionRows x = Scenes.withDueUnits(1, 0);
            x.hold(0, kind, 50);
            x.hold(0, kind, 20);
            held(x, 0, 20, true);
            held(x, 0, 21, false);
            x.hold(0, kind, -1);
            held(x, 0, Scenes.LAST_DAY, true);
            x.hold(0, kind, 0);
            held(x, 0, 0, true);
            held(x, 0, 1, false);
            x.hold(0, kind, 30);
            held(x, 0, 30, true);
            held(x, 0, 31, false);
        }
    }

    private static void kindsBesideEachOther() {
        Checks.sentence("8 hold: holds of several kinds last beside each other");
        RetentionRows x = Scenes.withDueUnits(1, 0);
        for (int kind = 0; kind < 4; kind++) {
            x.hold(0, kind, 40 - 10 * kind);
        }
        for (int kind = 0; kind < 4; kind++) {
            held(x, 0, 40 - 10 * kind, true);
            held(x, 0, 41 - 10 * kind, false);
            x.hold(0, kind, 0);
        }
        held(x, 0, 1, false);
        x.hold(0, 1, -1);
        x.hold(0, 2, 5);
        held(x, 0, 6, true);
    }

    private static void orderOfRefusals() {
        Checks.sentence("8 hold: NONE; RANGE, the first of these");
        RetentionRows x = new RetentionRows();
        Checks.is("none before range of kinds", x.hold(60, 4, 0), RetentionRows.NONE);
        Checks.is("none before range of days", x.hold(-1, 0, -2), RetentionRows.NONE);
        Checks.is("range of both", x.hold(0, 4, -2), RetentionRows.RANGE);
    }

    private static void refusedHoldsChangeNothing() {
        Checks.sentence("8 hold: a refused call changes nothing");
        RetentionRows x = Scenes.withDueUnits(1, 0);
        x.hold(0, 0, 10);
        Scenes.approveTwice(x, 0);
        x.hold(0, 0, -2);
        x.hold(0, 0, 1000001);
        x.hold(0, 4, 20);
        x.hold(0, -1, 20);
        Checks.is("approvals", x.about(0, 5), 2);
        Checks.is("the hold lasts as it did", x.dispose(0, 0, 10), -15);
        Checks.is("and no longer", x.dispose(0, 0, 11), 1);
    }

    private static void ofADisposedUnit() {
        Checks.sentence("8 hold: NONE and RANGE alone are refused: not a unit that is DISPOSED");
        RetentionRows x = Scenes.withDestroyedUnit(0);
        Checks.is("a hold", x.hold(0, 0, -1), 1);
        Checks.is("no such kind", x.hold(0, 4, -1), RetentionRows.RANGE);
        Checks.is("disposed of as before", x.about(0, 6), 1);
    }
}
