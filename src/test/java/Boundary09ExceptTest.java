/** Promise 9, its boundary cases: an exception's last day, and exceptions that are refused. */
public final class Boundary09ExceptTest {
    public static void main(String[] args) {
        noSuchUnit();
        everyUnit();
        daysThatCanNotBe();
        theLastDayToo();
        inPlaceOfTheOneBefore();
        orderOfRefusals();
        refusedExceptionsChangeNothing();
        exceptionsLeaveTheDueDay();
        ofADisposedUnit();
        Checks.end();
    }

    private static void noSuchUnit() {
        Checks.sentence("9 except: NONE");
        RetentionRows x = Scenes.withDueUnits(60, 0);
        for (int unit : Scenes.NO_UNITS) {
            Checks.is("unit " + unit, x.except(unit, 5), RetentionRows.NONE);
        }
        Checks.is("all are due", x.due(5), 60);
    }

    private static void everyUnit() {
        Checks.sentence("9 except: UNITS are 0 .. 59");
        RetentionRows x = Scenes.withDueUnits(60, 0);
        for (int unit = 0; unit < 60; unit++) {
            Checks.is("unit " + unit, x.except(unit, 100 + unit), 1);
        }
        for (int unit = 0; unit < 60; unit++) {
            Checks.is("due on day " + (100 + unit), x.due(100 + unit), unit);
        }
        Checks.is("due behind all", x.due(160), 60);
    }

    private static void daysThatCanNotBe() {
        Checks.sentence("9 except: RANGE");
        RetentionRows x = Scenes.withDueUnits(1, 0);
        for (int day : Scenes.NO_DAYS) {
            Checks.is("until " + day, x.except(0, day), RetentionRows.RANGE);
        }
        Checks.is("due on day 0", x.due(0), 1);
        Checks.is("due on the last day", x.due(Scenes.LAST_DAY), 1);
    }

    private static void theLastDayToo() {
        Checks.sentence("9 except: lasts until a day (that day too)");
        for (int until : new int[] {0, 1, 500, 999999, Scenes.LAST_DAY}) {
            RetentionRows x = Scenes.withDueUnits(1, 0);
            Checks.is("until " + until, x.except(0, until), 1);
            Checks.is("due on day 0", x.due(0), 0);
            Checks.is("due on day " + until, x.due(until), 0);
            Checks.is("disposed of on day " + until, x.dispose(0, 0, until), -14);
            if (until < Scenes.LAST_DAY) {
                Checks.is("due behind " + until, x.due(until + 1), 1);
                Checks.is("disposed of behind " + until, x.dispose(0, 0, until + 1), -16);
                Checks.is("due on the last day", x.due(Scenes.LAST_DAY), 1);
            }
        }
    }

    private static void inPlaceOfTheOneBefore() {
        Checks.sentence("9 except: in place of the one before");
        RetentionRows x = Scenes.withDueUnits(1, 0);
        int[] untils = {50, 20, 60, 0, Scenes.LAST_DAY, 7, 7};
        for (int until : untils) {
            Checks.is("until " + until, x.except(0, until), 1);
            Checks.is("due on day " + until, x.due(until), 0);
            if (until < Scenes.LAST_DAY) {
                Checks.is("due behind " + until, x.due(until + 1), 1);
            }
        }
    }

    private static void orderOfRefusals() {
        Checks.sentence("9 except: NONE, RANGE, the first of these");
        RetentionRows x = new RetentionRows();
        Checks.is("unit 60", x.except(60, -1), RetentionRows.NONE);
        Checks.is("unit -1", x.except(-1, 1000001), RetentionRows.NONE);
    }

    private static void refusedExceptionsChangeNothing() {
        Checks.sentence("9 except: a refused call changes nothing");
        RetentionRows x = Scenes.withDueUnits(1, 0);
        x.except(0, 10);
        Scenes.approveTwice(x, 0);
        for (int day : Scenes.NO_DAYS) {
            x.except(0, day);
        }
        Checks.is("approvals", x.about(0, 5), 2);
        Checks.is("it lasts as it did", x.due(10), 0);
        Checks.is("and no longer", x.due(11), 1);
    }

    private static void exceptionsLeaveTheDueDay() {
        Checks.sentence("Terms: an EXCEPTION is against being DUE, not against the DUE DAY");
        RetentionRows x = Scenes.withDueUnits(2, 3);
        x.except(0, 10);
        Checks.is("its due day", x.day(0, 10), 3);
        Checks.is("another unit is due", x.due(10), 1);
        Checks.is("which one", Checks.at(x, 0, 0), 1);
    }

    private static void ofADisposedUnit() {
        Checks.sentence("9 except: NONE and RANGE alone are refused: not a unit that is DISPOSED");
        RetentionRows x = Scenes.withDestroyedUnit(0);
        Checks.is("an exception", x.except(0, 5), 1);
        Checks.is("a day that can't be", x.except(0, -1), RetentionRows.RANGE);
        Checks.is("disposed of as before", x.about(0, 6), 1);
    }
}
