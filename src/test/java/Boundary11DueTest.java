/** Promise 11, its boundary cases: days at their edges, lists of none and of all, their order. */
public final class Boundary11DueTest {
    public static void main(String[] args) {
        daysThatCanNotBe();
        refusedCallsKeepTheList();
        firstAndLastDay();
        noneIsDue();
        allAreDue();
        notAboveThatDay();
        notDisposedOf();
        notNever();
        notFailing();
        noExceptionOnThatDay();
        heldUnitsAreDue();
        byDueDays();
        thenByNumbers();
        yearsOfThatDay();
        listedAnew();
        Checks.end();
    }

    private static void listed(RetentionRows x, int... units) {
        for (int i = 0; i < units.length; i++) {
            Checks.is("unit at " + i, Checks.at(x, i, 0), units[i]);
        }
        Checks.is("none behind them", Checks.at(x, units.length, 0), Checks.THROWN);
    }

    private static void daysThatCanNotBe() {
        Checks.sentence("11 due: RANGE");
        RetentionRows x = Scenes.withDueUnits(3, 0);
        for (int day : Scenes.NO_DAYS) {
            Checks.is("day " + day, x.due(day), RetentionRows.RANGE);
            listed(x);
        }
    }

    private static void refusedCallsKeepTheList() {
        Checks.sentence("11 due: RANGE changes nothing that is listed");
        RetentionRows x = Scenes.withDueUnits(3, 0);
        x.due(0);
        for (int day : Scenes.NO_DAYS) {
            x.due(day);
            listed(x, 0, 1, 2);
        }
    }

    private static void firstAndLastDay() {
        Checks.sentence("11 due: days are 0 .. 1000000");
        RetentionRows x = Scenes.withDueUnits(1, 0);
        Scenes.makeDue(x, 59, Scenes.LAST_DAY);
        Checks.is("on day 0", x.due(0), 1);
        listed(x, 0);
        Checks.is("the day before the last", x.due(999999), 1);
        Checks.is("the last day", x.due(Scenes.LAST_DAY), 2);
        listed(x, 0, 59);
    }

    private static void noneIsDue() {
        Checks.sentence("11 due: how many: none");
        RetentionRows x = new RetentionRows();
        Checks.is("of a new object", x.due(0), 0);
        listed(x);
        RetentionRows y = Scenes.withDueUnits(60, 100);
        Checks.is("the day before", y.due(99), 0);
        listed(y);
    }

    private static void allAreDue() {
        Checks.sentence("11 due: how many: all of the 60");
        RetentionRows x = Scenes.withDueUnits(60, 100);
        Checks.is("on their day", x.due(100), 60);
        for (int i = 0; i < 60; i++) {
            Checks.is("unit at " + i, Checks.at(x, i, 0), i);
            Checks.is("day at " + i, Checks.at(x, i, 1), 100);
            Checks.is("action at " + i, Checks.at(x, i, 2), 0);
        }
        Checks.is("none behind them", Checks.at(x, 60, 0), Checks.THROWN);
        Checks.is("again", x.due(100), 60);
        Checks.is("the last of them", Checks.at(x, 59, 0), 59);
    }

    private static void notAboveThatDay() {
        Checks.sentence("Terms: DUE: whose DUE DAY is not above that day");
        RetentionRows x = Scenes.withRules("made 1 destroy");
        for (int unit = 0; unit < 60; unit++) {
            Scenes.makeDue(x, unit, unit);
        }
        Checks.is("the day before", x.due(364), 0);
        for (int unit = 0; unit < 60; unit += 10) {
            Checks.is("on day " + (365 + unit), x.due(365 + unit), unit + 1);
        }
    }

    private static void notDisposedOf() {
        Checks.sentence("Terms: DUE: units that are not DISPOSED");
        RetentionRows x = Scenes.withDueUnits(3, 5);
        Scenes.destroy(x, 1, 900);
        Checks.is("behind it", x.due(900), 2);
        listed(x, 0, 2);
        Checks.is("on a day before it", x.due(5), 2);
        listed(x, 0, 2);
    }

    private static void notNever() {
        Checks.sentence("Terms: DUE: whose DUE DAY is not NEVER");
        RetentionRows x = Scenes.withRules("made 0 destroy", "used 0 destroy");
        x.event(0, 0, 0);
        x.schedule(1, 0);
        x.event(2, 0, 0);
        x.schedule(2, 0);
        x.schedule(2, 1);
        Scenes.makeDue(x, 3, 0);
        Checks.is("one of four", x.due(Scenes.LAST_DAY), 1);
        listed(x, 3);
    }

    private static void notFailing() {
        Checks.sentence("Terms: DUE: a rule that FAILS makes the DUE DAY NEVER");
        RetentionRows x = Scenes.withRules("made 0 destroy", "made 0 transfer");
        Scenes.makeDue(x, 0, 0);
        Scenes.makeDue(x, 1, 0);
        x.schedule(1, 1);
        x.event(2, 0, 0);
        x.schedule(2, 1);
        Checks.is("none broken", x.due(0), 3);
        x.breaks(1, true);
        Checks.is("rule 1 broken", x.due(0), 1);
        listed(x, 0);
        x.breaks(0, true);
        Checks.is("both broken", x.due(0), 0);
        x.breaks(1, false);
        Checks.is("rule 0 broken", x.due(0), 1);
        listed(x, 2);
    }

    private static void noExceptionOnThatDay() {
        Checks.sentence("Terms: DUE: that have no EXCEPTION on that day");
        RetentionRows x = Scenes.withDueUnits(2, 10);
        x.except(0, 9);
        Checks.is("one that is over", x.due(10), 2);
        x.except(0, 10);
        Checks.is("one that lasts", x.due(10), 1);
        listed(x, 1);
        Checks.is("the day behind it", x.due(11), 2);
    }

    private static void heldUnitsAreDue() {
        Checks.sentence("Terms: DUE: a HOLD is not against it");
        RetentionRows x = Scenes.withDueUnits(2, 10);
        x.hold(0, 0, -1);
        x.hold(1, 3, 50);
        Checks.is("both are held", x.due(10), 2);
        listed(x, 0, 1);
    }

    private static void byDueDays() {
        Checks.sentence("Terms: listed by DUE DAYs");
        RetentionRows x = Scenes.withRules("made 0 destroy");
        for (int unit = 0; unit < 60; unit++) {
            Scenes.makeDue(x, unit, 1000 - unit);
        }
        Checks.is("all", x.due(1000), 60);
        for (int i = 0; i < 60; i++) {
            Checks.is("unit at " + i, Checks.at(x, i, 0), 59 - i);
            Checks.is("day at " + i, Checks.at(x, i, 1), 941 + i);
        }
        Checks.is("the first ten", x.due(950), 10);
        listed(x, 59, 58, 57, 56, 55, 54, 53, 52, 51, 50);
    }

    private static void thenByNumbers() {
        Checks.sentence("Terms: then by numbers");
        RetentionRows x = Scenes.withRules("made 0 destroy");
        for (int unit = 59; unit >= 0; unit--) {
            Scenes.makeDue(x, unit, unit % 2 == 0 ? 20 : 10);
        }
        Checks.is("all", x.due(20), 60);
        for (int i = 0; i < 60; i++) {
            Checks.is("unit at " + i, Checks.at(x, i, 0), i < 30 ? 2 * i + 1 : 2 * i - 60);
        }
    }

    private static void yearsOfThatDay() {
        Checks.sentence("11 due: DUE on a day, by the YEARS of that day");
        RetentionRows x = Scenes.withRules("made 0 destroy", "made 1 transfer");
        Scenes.makeDue(x, 0, 0);
        x.event(1, 0, 0);
        x.schedule(1, 1);
        x.change(0, 2, 400);
        x.change(1, 0, 500);
        Checks.is("before the changes", x.due(399), 2);
        listed(x, 0, 1);
        Checks.is("behind the first", x.due(400), 1);
        listed(x, 1);
        Checks.is("behind both, on the day", x.due(730), 2);
        listed(x, 1, 0);
        Checks.is("its day is that of the years", Checks.at(x, 0, 1), 0);
    }

    private static void listedAnew() {
        Checks.sentence("11 due: those are listed, and no longer those before");
        RetentionRows x = Scenes.withRules("made 0 destroy");
        for (int unit = 0; unit < 5; unit++) {
            Scenes.makeDue(x, unit, 10 * unit);
        }
        Checks.is("five", x.due(40), 5);
        Checks.is("two", x.due(10), 2);
        listed(x, 0, 1);
        x.except(0, 500);
        x.except(1, 500);
        Checks.is("none", x.due(10), 0);
        listed(x);
        Checks.is("three", x.due(40), 3);
        listed(x, 2, 3, 4);
    }
}
