/** Promise 6, its boundary cases: units, kinds and days at their edges, and refused events. */
public final class Boundary06EventTest {
    public static void main(String[] args) {
        noSuchUnit();
        firstAndLastUnit();
        kindsThatCanNotBe();
        eachKind();
        daysThatCanNotBe();
        firstAndLastDay();
        inPlaceOfTheOneBefore();
        notOfADisposedUnit();
        orderOfRefusals();
        refusedEventsChangeNothing();
        Checks.end();
    }

    private static void noSuchUnit() {
        Checks.sentence("6 event: NONE");
        RetentionRows x = new RetentionRows();
        for (int unit : Scenes.NO_UNITS) {
            Checks.is("unit " + unit, x.event(unit, 0, 0), RetentionRows.NONE);
        }
        Checks.is("unit 0 has none", x.about(0, 0), -1);
        Checks.is("unit 59 has none", x.about(59, 0), -1);
    }

    private static void firstAndLastUnit() {
        Checks.sentence("6 event: UNITS are 0 .. 59");
        RetentionRows x = new RetentionRows();
        for (int unit = 0; unit < 60; unit++) {
            Checks.is("unit " + unit, x.event(unit, 1, 100 + unit), 1);
        }
        for (int unit = 0; unit < 60; unit++) {
            Checks.is("its day", x.about(unit, 1), 100 + unit);
            Checks.is("no other event", x.about(unit, 0), -1);
        }
    }

    private static void kindsThatCanNotBe() {
        Checks.sentence("6 event: RANGE of kinds");
        RetentionRows x = new RetentionRows();
        for (int kind : Scenes.NO_KINDS) {
            Checks.is("kind " + kind, x.event(0, kind, 7), RetentionRows.RANGE);
        }
        for (int kind = 0; kind < 4; kind++) {
            Checks.is("event " + kind, x.about(0, kind), -1);
        }
        Checks.is("rules", x.about(0, 4), 0);
    }

    private static void eachKind() {
        Checks.sentence("Terms: EVENTS are 0 made, 1 used, 2 closed, 3 death");
        String[] texts = {"made 0 destroy", "used 0 destroy", "closed 0 destroy",
            "death 0 destroy"};
        for (int kind = 0; kind < 4; kind++) {
            RetentionRows x = Scenes.withRules(texts[kind]);
            x.schedule(5, 0);
            for (int other = 0; other < 4; other++) {
                if (other != kind) {
                    Checks.is("event " + other, x.event(5, other, 9), 1);
                }
            }
            Checks.is(texts[kind] + " without its event", x.day(5, 0), -1);
            Checks.is("event " + kind, x.event(5, kind, 3), 1);
            Checks.is(texts[kind] + " with its event", x.day(5, 0), 3);
        }
    }

    private static void daysThatCanNotBe() {
        Checks.sentence("6 event: RANGE of days");
        RetentionRows x = new RetentionRows();
        for (int kind = 0; kind < 4; kind++) {
            for (int day : Scenes.NO_DAYS) {
                Checks.is("kind " + kind + ", day " + day, x.event(0, kind, day),
                        RetentionRows.RANGE);
            }
            Checks.is("event " + kind, x.about(0, kind), -1);
        }
    }

    private static void firstAndLastDay() {
        Checks.sentence("6 event: days are 0 .. 1000000");
        RetentionRows x = new RetentionRows();
        for (int kind = 0; kind < 4; kind++) {
            for (int day : new int[] {0, 1, 999999, Scenes.LAST_DAY}) {
                Checks.is("kind " + kind + ", day " + day, x.event(0, kind, day), 1);
                Checks.is("it is there", x.about(0, kind), day);
            }
        }
    }

    private static void inPlaceOfTheOneBefore() {
        Checks.sentence("6 event: in place of the one before");
        RetentionRows x = Scenes.withDueUnits(2, 50);
        int[] days = {60, 40, 40, 0, Scenes.LAST_DAY, 1};
        for (int day : days) {
            Checks.is("event on day " + day, x.event(0, 0, day), 1);
            Checks.is("its day", x.about(0, 0), day);
            Checks.is("its due day", x.day(0, 0), day);
        }
        x.event(0, 1, 8);
        Checks.is("another kind is not in its place", x.about(0, 0), 1);
        Checks.is("another unit's", x.about(1, 0), 50);
    }

    private static void notOfADisposedUnit() {
        Checks.sentence("6 event: STATE if it is DISPOSED");
        RetentionRows x = Scenes.withDestroyedUnit(5);
        for (int kind = 0; kind < 4; kind++) {
            Checks.is("kind " + kind, x.event(0, kind, 9), RetentionRows.STATE);
            Checks.is("its day as it was", x.about(0, kind), kind == 0 ? 5 : -1);
        }
        x.certificate(0, 1);
        Checks.is("with a certificate too", x.event(0, 0, 9), RetentionRows.STATE);
        Checks.is("its due day as it was", x.day(0, 0), 5);
        Checks.is("another unit", x.event(1, 0, 9), 1);
        RetentionRows y = Scenes.withDestroyedUnit(0);
        Checks.is("disposed of on day 0", y.event(0, 0, 9), RetentionRows.STATE);
    }

    private static void orderOfRefusals() {
        Checks.sentence("6 event: NONE, RANGE; STATE, the first of these");
        RetentionRows x = Scenes.withDestroyedUnit(5);
        Checks.is("none before range of kinds", x.event(60, 4, 0), RetentionRows.NONE);
        Checks.is("none before range of days", x.event(-1, 0, -1), RetentionRows.NONE);
        Checks.is("range of kinds before state", x.event(0, 4, 0), RetentionRows.RANGE);
        Checks.is("range of days before state", x.event(0, 0, 1000001), RetentionRows.RANGE);
    }

    private static void refusedEventsChangeNothing() {
        Checks.sentence("6 event: a refused call changes nothing");
        RetentionRows x = Scenes.withDueUnits(1, 5);
        Scenes.approveTwice(x, 0);
        for (int day : Scenes.NO_DAYS) {
            x.event(0, 0, day);
        }
        for (int kind : Scenes.NO_KINDS) {
            x.event(0, kind, 7);
        }
        Checks.is("its day", x.about(0, 0), 5);
        Checks.is("approvals", x.about(0, 5), 2);
        x.dispose(0, 0, 5);
        x.event(0, 0, 6);
        Checks.is("approvals of a disposed unit", x.about(0, 5), 2);
    }
}
