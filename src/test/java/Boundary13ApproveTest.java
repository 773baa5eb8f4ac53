/** Promise 13, its boundary cases: persons at their edges, what takes approvals away or not. */
public final class Boundary13ApproveTest {
    private static final int[] NO_PERSONS = {-1, 100, 101, Integer.MIN_VALUE, Integer.MAX_VALUE};

    public static void main(String[] args) {
        noSuchUnit();
        everyUnit();
        noSuchPerson();
        firstAndLastPerson();
        howManyHave();
        thatPersonsAlready();
        hasTwo();
        notOfADisposedUnit();
        orderOfRefusals();
        takenAwayByARule();
        takenAwayByAnEvent();
        takenAwayByAHold();
        takenAwayByAnException();
        approvedAnew();
        notTakenAwayByTheRest();
        keptByAnother();
        Checks.end();
    }

    private static void noSuchUnit() {
        Checks.sentence("13 approve: NONE");
        RetentionRows x = new RetentionRows();
        for (int unit : Scenes.NO_UNITS) {
            Checks.is("unit " + unit, x.approve(unit, 0), RetentionRows.NONE);
        }
        Checks.is("unit 0 has none", x.about(0, 5), 0);
        Checks.is("unit 59 has none", x.about(59, 5), 0);
    }

    private static void everyUnit() {
        Checks.sentence("13 approve: UNITS are 0 .. 59");
        RetentionRows x = new RetentionRows();
        for (int unit = 0; unit < 60; unit++) {
            Checks.is("unit " + unit, x.approve(unit, 9), 1);
        }
        for (int unit = 0; unit < 60; unit++) {
            Checks.is("unit " + unit + " again", x.approve(unit, 9), RetentionRows.STATE);
            Checks.is("its approvals", x.about(unit, 5), 1);
        }
    }

    private static void noSuchPerson() {
        Checks.sentence("13 approve: RANGE");
        RetentionRows x = new RetentionRows();
        for (int person : NO_PERSONS) {
            Checks.is("person " + person, x.approve(0, person), RetentionRows.RANGE);
        }
        Checks.is("none has", x.about(0, 5), 0);
        x.approve(0, 5);
        for (int person : NO_PERSONS) {
            Checks.is("person " + person, x.approve(0, person), RetentionRows.RANGE);
        }
        Checks.is("one has", x.about(0, 5), 1);
    }

    private static void firstAndLastPerson() {
        Checks.sentence("13 approve: persons, 0 .. 99");
        RetentionRows x = new RetentionRows();
        for (int unit = 0; unit < 50; unit++) {
            Checks.is("person " + unit, x.approve(unit, unit), 1);
            Checks.is("person " + (99 - unit), x.approve(unit, 99 - unit), 2);
        }
    }

    private static void howManyHave() {
        Checks.sentence("13 approve: how many have");
        RetentionRows x = new RetentionRows();
        Checks.is("none", x.about(3, 5), 0);
        Checks.is("the first", x.approve(3, 50), 1);
        Checks.is("one", x.about(3, 5), 1);
        Checks.is("the second", x.approve(3, 51), 2);
        Checks.is("two", x.about(3, 5), 2);
    }

    private static void thatPersonsAlready() {
        Checks.sentence("13 approve: STATE if it has that person's");
        for (int person : new int[] {0, 1, 50, 99}) {
            RetentionRows x = new RetentionRows();
            x.approve(0, person);
            Checks.is("person " + person + " again", x.approve(0, person), RetentionRows.STATE);
            Checks.is("still one", x.about(0, 5), 1);
            Checks.is("another unit's", x.approve(1, person), 1);
            Checks.is("another person", x.approve(0, (person + 1) % 100), 2);
        }
    }

    private static void hasTwo() {
        Checks.sentence("13 approve: STATE if it has two");
        RetentionRows x = new RetentionRows();
        x.approve(0, 10);
        x.approve(0, 20);
        for (int person : new int[] {0, 10, 15, 20, 99}) {
            Checks.is("person " + person, x.approve(0, person), RetentionRows.STATE);
        }
        Checks.is("still two", x.about(0, 5), 2);
    }

    private static void notOfADisposedUnit() {
        Checks.sentence("13 approve: STATE if it is DISPOSED");
        RetentionRows x = Scenes.withDestroyedUnit(0);
        Checks.is("with two", x.approve(0, 3), RetentionRows.STATE);
        x.hold(0, 0, 0);
        Checks.is("without any", x.approve(0, 3), RetentionRows.STATE);
        x.certificate(0, 1);
        Checks.is("with a certificate", x.approve(0, 3), RetentionRows.STATE);
        Checks.is("none has", x.about(0, 5), 0);
    }

    private static void orderOfRefusals() {
        Checks.sentence("13 approve: NONE, RANGE; STATE, the first of these");
        RetentionRows x = Scenes.withDestroyedUnit(0);
        Checks.is("none before range", x.approve(60, 100), RetentionRows.NONE);
        Checks.is("none before range, below", x.approve(-1, -1), RetentionRows.NONE);
        Checks.is("range before disposed of", x.approve(0, 100), RetentionRows.RANGE);
        Scenes.approveTwice(x, 1);
        Checks.is("range before two", x.approve(1, -1), RetentionRows.RANGE);
    }

    private static void takenAwayByARule() {
        Checks.sentence("Terms: a rule more takes them away");
        RetentionRows x = Scenes.withRules(4);
        for (int rule = 0; rule < 4; rule++) {
            Scenes.approveTwice(x, 0);
            x.schedule(0, rule);
            Checks.is("rule " + rule + ", two", x.about(0, 5), 0);
        }
        x.approve(1, 1);
        x.schedule(1, 0);
        Checks.is("one", x.about(1, 5), 0);
    }

    private static void takenAwayByAnEvent() {
        Checks.sentence("Terms: an event takes them away");
        RetentionRows x = new RetentionRows();
        for (int kind = 0; kind < 4; kind++) {
            for (int day : new int[] {0, 7, 7, Scenes.LAST_DAY}) {
                Scenes.approveTwice(x, 0);
                x.event(0, kind, day);
                Checks.is("event " + kind + " on day " + day, x.about(0, 5), 0);
            }
        }
        x.approve(1, 1);
        x.event(1, 0, 0);
        Checks.is("one", x.about(1, 5), 0);
    }

    private static void takenAwayByAHold() {
        Checks.sentence("Terms: a hold takes them away");
        RetentionRows x = new RetentionRows();
        for (int kind = 0; kind < 4; kind++) {
            for (int until : new int[] {-1, 0, 0, Scenes.LAST_DAY}) {
                Scenes.approveTwice(x, 0);
                x.hold(0, kind, until);
                Checks.is("hold " + kind + " until " + until, x.about(0, 5), 0);
            }
        }
        x.approve(1, 1);
        x.hold(1, 0, 0);
        Checks.is("one", x.about(1, 5), 0);
    }

    private static void takenAwayByAnException() {
        Checks.sentence("Terms: an exception told takes them away");
        RetentionRows x = new RetentionRows();
        for (int until : new int[] {0, 7, 7, Scenes.LAST_DAY}) {
            Scenes.approveTwice(x, 0);
            x.except(0, until);
            Checks.is("until " + until, x.about(0, 5), 0);
        }
        x.approve(1, 1);
        x.except(1, 0);
        Checks.is("one", x.about(1, 5), 0);
    }

    private static void approvedAnew() {
        Checks.sentence("13 approve: what was taken away is not there any more");
        RetentionRows x = Scenes.withDueUnits(1, 0);
        Scenes.approveTwice(x, 0);
        x.event(0, 0, 0);
        Checks.is("not enough", x.dispose(0, 0, 0), -16);
        Checks.is("the second person again", x.approve(0, 2), 1);
        Checks.is("twice", x.approve(0, 2), RetentionRows.STATE);
        Checks.is("not enough yet", x.dispose(0, 0, 0), -16);
        Checks.is("the first person again", x.approve(0, 1), 2);
        Checks.is("enough", x.dispose(0, 0, 0), 1);
        RetentionRows y = new RetentionRows();
        y.approve(0, 0);
        y.hold(0, 0, 0);
        Checks.is("the only person again", y.approve(0, 0), 1);
    }

    private static void notTakenAwayByTheRest() {
        Checks.sentence("Terms: nothing else takes them away");
        RetentionRows x = Scenes.withDueUnits(2, 0);
        Scenes.approveTwice(x, 0);
        Checks.rule(x, "made 1 destroy");
        x.change(0, 0, 5);
        x.breaks(0, true);
        x.breaks(0, false);
        x.day(0, 0);
        x.due(0);
        Checks.at(x, 0, 0);
        x.about(0, 0);
        x.approve(0, 3);
        x.approve(0, 100);
        x.certificate(0, 1);
        x.dispose(0, 1, 0);
        x.dispose(0, 2, 0);
        Checks.history(x, 0);
        Checks.is("still two", x.about(0, 5), 2);
        Checks.is("they count", x.dispose(0, 0, 0), 1);
        Checks.is("two behind it", x.about(0, 5), 2);
    }

    private static void keptByAnother() {
        Checks.sentence("Terms: APPROVALS of a unit, not another's");
        RetentionRows x = Scenes.withDueUnits(3, 0);
        for (int unit = 0; unit < 3; unit++) {
            Scenes.approveTwice(x, unit);
        }
        x.event(1, 0, 0);
        x.hold(1, 0, 0);
        x.except(1, 0);
        Checks.is("unit 0", x.about(0, 5), 2);
        Checks.is("unit 1", x.about(1, 5), 0);
        Checks.is("unit 2", x.about(2, 5), 2);
    }
}
