/** Promise 4, its boundary cases: years and days at their edges, and changes that are refused. */
public final class Boundary04ChangeTest {
    private static final int[] NO_YEARS = {-1, 1000, Integer.MIN_VALUE, Integer.MAX_VALUE};

    public static void main(String[] args) {
        noSuchRule();
        leastAndMostYears();
        yearsThatCanNotBe();
        firstAndLastDay();
        daysThatCanNotBe();
        fromThatDayOn();
        changedFromThatDayOn();
        changedFromALaterDayOn();
        fullBehindFiveChanges();
        refusedChangesAreNotCounted();
        orderOfRefusals();
        refusedChangesChangeNothing();
        changesOfEachRule();
        Checks.end();
    }

    /** Unit 0, made on day 0, has rule 0 of three years. */
    private static RetentionRows withRule() {
        RetentionRows x = Scenes.withRules("made 3 destroy");
        Scenes.makeDue(x, 0, 0);
        return x;
    }

    private static void years(RetentionRows x, int on, int due) {
        Checks.is("years on day " + on, x.day(0, on), due * 365);
    }

    private static void noSuchRule() {
        Checks.sentence("4 change: NONE");
        RetentionRows x = withRule();
        for (int rule : new int[] {-1, 1, 19, 20, Integer.MIN_VALUE, Integer.MAX_VALUE}) {
            Checks.is("rule " + rule, x.change(rule, 1, 1), RetentionRows.NONE);
        }
        years(x, Scenes.LAST_DAY, 3);
        Checks.rule(x, "made 3 destroy");
        Checks.is("rule 1, now that it is there", x.change(1, 1, 1), 1);
        RetentionRows y = Scenes.withRules(20);
        Checks.is("rule 19", y.change(19, 1, 1), 1);
        Checks.is("rule 20", y.change(20, 1, 1), RetentionRows.NONE);
    }

    private static void leastAndMostYears() {
        Checks.sentence("4 change: YEARS, 0 .. 999");
        RetentionRows x = withRule();
        Checks.is("no years", x.change(0, 0, 10), 1);
        years(x, 10, 0);
        Checks.is("one year", x.change(0, 1, 11), 1);
        years(x, 11, 1);
        Checks.is("998 years", x.change(0, 998, 12), 1);
        years(x, 12, 998);
        Checks.is("999 years", x.change(0, 999, 13), 1);
        years(x, 13, 999);
    }

    private static void yearsThatCanNotBe() {
        Checks.sentence("4 change: RANGE of years");
        RetentionRows x = withRule();
        for (int years : NO_YEARS) {
            Checks.is("years " + years, x.change(0, years, 10), RetentionRows.RANGE);
        }
        years(x, 10, 3);
    }

    private static void firstAndLastDay() {
        Checks.sentence("4 change: from a day on, 0 .. 1000000");
        RetentionRows x = withRule();
        Checks.is("the first day", x.change(0, 1, 0), 1);
        Checks.is("the last day", x.change(0, 2, Scenes.LAST_DAY), 1);
        years(x, 0, 1);
        years(x, 999999, 1);
        years(x, Scenes.LAST_DAY, 2);
    }

    private static void daysThatCanNotBe() {
        Checks.sentence("4 change: RANGE of days");
        RetentionRows x = withRule();
        for (int day : Scenes.NO_DAYS) {
            Checks.is("day " + day, x.change(0, 1, day), RetentionRows.RANGE);
        }
        years(x, 0, 3);
        years(x, Scenes.LAST_DAY, 3);
        Checks.is("the last day is free", x.change(0, 1, Scenes.LAST_DAY), 1);
    }

    private static void fromThatDayOn() {
        Checks.sentence("4 change: a rule's YEARS from a day on, that day too");
        RetentionRows x = withRule();
        for (int i = 1; i <= 5; i++) {
            x.change(0, 10 * i, 100 * i);
        }
        years(x, 0, 3);
        for (int i = 1; i <= 5; i++) {
            years(x, 100 * i - 1, i == 1 ? 3 : 10 * i - 10);
            years(x, 100 * i, 10 * i);
            years(x, 100 * i + 1, 10 * i);
        }
        years(x, Scenes.LAST_DAY, 50);
        RetentionRows y = withRule();
        y.change(0, 5, 1);
        y.change(0, 2, 2);
        y.change(0, 7, 3);
        years(y, 1, 5);
        years(y, 2, 2);
        years(y, 3, 7);
    }

    private static void changedFromThatDayOn() {
        Checks.sentence("4 change: STATE if it was changed from that day on");
        for (int day : new int[] {0, 1, 500, 999999, Scenes.LAST_DAY}) {
            RetentionRows x = withRule();
            Checks.is("from day " + day, x.change(0, 1, day), 1);
            Checks.is("again", x.change(0, 2, day), RetentionRows.STATE);
            Checks.is("the same again", x.change(0, 1, day), RetentionRows.STATE);
            years(x, day, 1);
        }
    }

    private static void changedFromALaterDayOn() {
        Checks.sentence("4 change: STATE if it was changed from a later day on");
        RetentionRows x = withRule();
        x.change(0, 1, 100);
        x.change(0, 2, 200);
        for (int day : new int[] {0, 50, 99, 100, 101, 199, 200}) {
            Checks.is("from day " + day, x.change(0, 9, day), RetentionRows.STATE);
        }
        years(x, 99, 3);
        years(x, 199, 1);
        years(x, 200, 2);
        Checks.is("from the next day", x.change(0, 4, 201), 1);
        years(x, 201, 4);
        RetentionRows y = withRule();
        y.change(0, 1, Scenes.LAST_DAY);
        Checks.is("the day before the last", y.change(0, 1, 999999), RetentionRows.STATE);
    }

    private static void fullBehindFiveChanges() {
        Checks.sentence("4 change: FULL behind 5 changes");
        RetentionRows x = withRule();
        for (int i = 1; i <= 5; i++) {
            Checks.is("change " + i, x.change(0, i + 3, i), 1);
        }
        Checks.is("change 6", x.change(0, 1, 6), RetentionRows.FULL);
        Checks.is("change 6 again", x.change(0, 1, Scenes.LAST_DAY), RetentionRows.FULL);
        years(x, 0, 3);
        for (int i = 1; i <= 5; i++) {
            years(x, i, i + 3);
        }
        years(x, 6, 8);
        years(x, Scenes.LAST_DAY, 8);
    }

    private static void refusedChangesAreNotCounted() {
        Checks.sentence("4 change: FULL behind 5 changes, refused calls being none");
        RetentionRows x = withRule();
        x.change(0, 1, 10);
        for (int i = 0; i < 6; i++) {
            x.change(0, 1, 10);
            x.change(0, 1000, 20);
            x.change(1, 1, 20);
        }
        for (int i = 2; i <= 5; i++) {
            Checks.is("change " + i, x.change(0, i, 10 * i), 1);
        }
        Checks.is("change 6", x.change(0, 6, 60), RetentionRows.FULL);
    }

    private static void orderOfRefusals() {
        Checks.sentence("4 change: NONE, RANGE; STATE; FULL, the first of these");
        RetentionRows x = withRule();
        Checks.is("none before range of years", x.change(1, 1000, 0), RetentionRows.NONE);
        Checks.is("none before range of days", x.change(-1, 0, -1), RetentionRows.NONE);
        x.change(0, 1, 10);
        Checks.is("range of years before state", x.change(0, -1, 10), RetentionRows.RANGE);
        Checks.is("range of days before state", x.change(0, 1, -1), RetentionRows.RANGE);
        for (int i = 2; i <= 5; i++) {
            x.change(0, i, 10 * i);
        }
        Checks.is("range of years before full", x.change(0, 1000, 60), RetentionRows.RANGE);
        Checks.is("range of days before full", x.change(0, 1, 1000001), RetentionRows.RANGE);
        Checks.is("state before full", x.change(0, 1, 50), RetentionRows.STATE);
        Checks.is("state before full, earlier", x.change(0, 1, 0), RetentionRows.STATE);
    }

    private static void refusedChangesChangeNothing() {
        Checks.sentence("4 change: a refused call changes nothing");
        RetentionRows x = withRule();
        Scenes.approveTwice(x, 0);
        x.breaks(0, true);
        x.change(0, 1000, 5);
        x.change(0, 1, -1);
        x.change(1, 1, 1);
        Checks.is("it is broken still", x.breaks(0, false), true);
        Checks.is("approvals", x.about(0, 5), 2);
        years(x, 5, 3);
    }

    private static void changesOfEachRule() {
        Checks.sentence("4 change: a rule's YEARS, not another's");
        RetentionRows x = Scenes.withRules(20);
        for (int rule = 0; rule < 20; rule++) {
            for (int i = 1; i <= 5; i++) {
                Checks.is("rule " + rule + ", change " + i, x.change(rule, i, i), 1);
            }
            Checks.is("rule " + rule + ", change 6", x.change(rule, 6, 6), RetentionRows.FULL);
        }
        RetentionRows y = Scenes.withRules("made 1 destroy", "made 2 destroy", "made 3 destroy");
        y.change(1, 9, 5);
        for (int rule = 0; rule < 3; rule++) {
            y.event(rule, 0, 0);
            y.schedule(rule, rule);
            Checks.is("day by rule " + rule, y.day(rule, 5), (rule == 1 ? 9 : rule + 1) * 365);
        }
    }
}
