/** Promises 10 to 12: due days, what is due on a day, and the list of it. */
public final class DueTest {
    public static void main(String[] args) {
        latestOfRules();
        neverAndFails();
        wrongDays();
        largestDay();
        actionOfTheLatest();
        dueByDays();
        orderOfTheList();
        listAsItWas();
        wrongLists();
        allUnits();
        Checks.end();
    }

    private static RetentionRows withRules(String... texts) {
        RetentionRows x = new RetentionRows();
        for (int i = 0; i < texts.length; i++) {
            Checks.is(texts[i], Checks.rule(x, texts[i]), i);
        }
        return x;
    }

    private static void latestOfRules() {
        RetentionRows x = withRules("made 1 destroy", "used 2 destroy", "closed 0 destroy");
        x.event(0, 0, 500);
        x.event(0, 1, 100);
        x.event(0, 2, 850);
        x.schedule(0, 0);
        Checks.is("one rule", x.day(0, 0), 865);
        x.schedule(0, 1);
        Checks.is("an earlier one more", x.day(0, 0), 865);
        x.event(0, 1, 200);
        Checks.is("a later event", x.day(0, 0), 930);
        x.schedule(0, 2);
        Checks.is("a third", x.day(0, 0), 930);
    }

    private static void neverAndFails() {
        RetentionRows x = withRules("made 1 destroy", "death 1 destroy");
        Checks.is("without a rule", x.day(0, 0), -1);
        x.event(0, 0, 0);
        Checks.is("with an event alone", x.day(0, 0), -1);
        x.schedule(0, 1);
        Checks.is("without the rule's event", x.day(0, 0), -1);
        x.schedule(0, 0);
        Checks.is("without one rule's event", x.day(0, 0), -1);
        x.breaks(0, true);
        Checks.is("fails before never", x.day(0, 0), -3);
        x.breaks(0, false);
        x.breaks(1, true);
        Checks.is("the first fails, and is never", x.day(0, 0), -3);
        x.event(0, 3, 0);
        Checks.is("fails with its event", x.day(0, 0), -3);
        Checks.is("not due", x.due(1000000), 0);
        x.breaks(1, false);
        Checks.is("mended", x.day(0, 0), 365);
        x.breaks(1, true);
        Checks.is("another unit has no such rule", x.day(1, 0), -1);
    }

    private static void wrongDays() {
        RetentionRows x = withRules("made 1 destroy");
        x.event(0, 0, 0);
        x.schedule(0, 0);
        x.breaks(0, true);
        Checks.is("day -1", x.day(0, -1), -2);
        Checks.is("day 1000001", x.day(0, 1000001), -2);
        Checks.is("unit -1", x.day(-1, 0), -2);
        Checks.is("unit 60", x.day(60, 0), -2);
        Checks.is("day 1000000", x.day(0, 1000000), -3);
        Checks.is("unit 59", x.day(59, 0), -1);
    }

    private static void largestDay() {
        RetentionRows x = withRules("made 999 destroy");
        x.event(0, 0, 1000000);
        x.schedule(0, 0);
        Checks.is("a day behind the last", x.day(0, 0), 1364635);
        Checks.is("never reached", x.due(1000000), 0);
    }

    private static void actionOfTheLatest() {
        RetentionRows x = withRules("made 1 destroy", "used 1 transfer", "closed 1 transfer");
        for (int unit = 0; unit < 2; unit++) {
            x.event(unit, 0, 10);
            x.event(unit, 1, 10);
            x.event(unit, 2, 9);
        }
        x.schedule(0, 2);
        x.schedule(0, 0);
        x.schedule(0, 1);
        x.schedule(1, 1);
        x.schedule(1, 0);
        Checks.is("both are due", x.due(375), 2);
        Checks.is("the first of equal days", Checks.at(x, 0, 2), 0);
        Checks.is("the first of the unit's row", Checks.at(x, 1, 2), 1);
        x.event(0, 1, 11);
        Checks.is("due a day later", x.due(376), 2);
        Checks.is("the later one", Checks.at(x, 1, 0), 0);
        Checks.is("the action of the latest", Checks.at(x, 1, 2), 1);
    }

    private static void dueByDays() {
        RetentionRows x = withRules("made 1 destroy");
        x.event(0, 0, 0);
        x.schedule(0, 0);
        Checks.is("the day before", x.due(364), 0);
        Checks.is("its day", x.due(365), 1);
        x.change(0, 3, 400);
        Checks.is("before the change", x.due(399), 1);
        Checks.is("with more years", x.due(400), 0);
        Checks.is("day with more years", x.due(1095), 1);
        Checks.is("the day as asked then", Checks.at(x, 0, 1), 1095);
        x.due(399);
        Checks.is("the day as asked before", Checks.at(x, 0, 1), 365);
        RetentionRows y = withRules("made 0 transfer");
        y.event(9, 0, 0);
        y.schedule(9, 0);
        Checks.is("due on day 0", y.due(0), 1);
    }

    private static void orderOfTheList() {
        RetentionRows x = withRules("made 0 destroy");
        int[] days = {50, 20, 50, 10, 20, 60};
        for (int unit = 0; unit < days.length; unit++) {
            x.event(unit, 0, days[unit]);
            x.schedule(unit, 0);
        }
        Checks.is("how many", x.due(50), 5);
        int[] due = {3, 1, 4, 0, 2};
        for (int i = 0; i < due.length; i++) {
            Checks.is("unit at " + i, Checks.at(x, i, 0), due[i]);
            Checks.is("day at " + i, Checks.at(x, i, 1), days[due[i]]);
            Checks.is("action at " + i, Checks.at(x, i, 2), 0);
        }
        Checks.is("no more", Checks.at(x, 5, 0), Checks.THROWN);
    }

    private static void listAsItWas() {
        RetentionRows x = withRules("made 0 destroy", "made 0 transfer");
        x.event(8, 0, 5);
        x.schedule(8, 0);
        x.due(5);
        x.event(8, 0, 7);
        x.schedule(8, 1);
        x.change(0, 9, 1);
        x.except(8, 100);
        Checks.is("the unit as it was", Checks.at(x, 0, 0), 8);
        Checks.is("the day as it was", Checks.at(x, 0, 1), 5);
        Checks.is("the action as it was", Checks.at(x, 0, 2), 0);
        Checks.is("a day that can't be", x.due(-1), RetentionRows.RANGE);
        Checks.is("the list is still there", Checks.at(x, 0, 0), 8);
        Checks.is("listed anew", x.due(100), 0);
        Checks.is("nothing is listed", Checks.at(x, 0, 0), Checks.THROWN);
    }

    private static void wrongLists() {
        RetentionRows x = withRules("made 0 destroy");
        x.event(0, 0, 0);
        x.schedule(0, 0);
        Checks.is("due(-1)", x.due(-1), RetentionRows.RANGE);
        Checks.is("due(1000001)", x.due(1000001), RetentionRows.RANGE);
        Checks.is("nothing listed yet", Checks.at(x, 0, 0), Checks.THROWN);
        Checks.is("due(1000000)", x.due(1000000), 1);
        int[] places = {-1, 1, 60, Integer.MIN_VALUE, Integer.MAX_VALUE};
        for (int i : places) {
            Checks.is("at(" + i + ", 0)", Checks.at(x, i, 0), Checks.THROWN);
        }
        int[] whats = {-1, 3, Integer.MIN_VALUE, Integer.MAX_VALUE};
        for (int what : whats) {
            Checks.is("at(0, " + what + ")", Checks.at(x, 0, what), Checks.THROWN);
        }
    }

    private static void allUnits() {
        RetentionRows x = withRules("made 0 destroy");
        for (int unit = 0; unit < 60; unit++) {
            x.event(unit, 0, 100 - unit);
            x.schedule(unit, 0);
        }
        Checks.is("all are due", x.due(100), 60);
        for (int i = 0; i < 60; i++) {
            Checks.is("unit at " + i, Checks.at(x, i, 0), 59 - i);
        }
        Checks.is("none behind them", Checks.at(x, 60, 0), Checks.THROWN);
    }
}
