/** Promise 16, its boundary cases: no such unit, another what, and the least and most of each. */
public final class Boundary16AboutTest {
    public static void main(String[] args) {
        noSuchUnit();
        anotherWhat();
        dayOfAnEvent();
        howManyRules();
        approvals();
        disposedOf();
        dayOfThat();
        certificate();
        firstAndLastUnit();
        Checks.end();
    }

    private static void noSuchUnit() {
        Checks.sentence("16 about: NONE for none such");
        RetentionRows x = Scenes.withDestroyedUnit(5);
        for (int unit : Scenes.NO_UNITS) {
            for (int what = -1; what <= 9; what++) {
                Checks.is("about(" + unit + ", " + what + ")", x.about(unit, what),
                        RetentionRows.NONE);
            }
        }
    }

    private static void anotherWhat() {
        Checks.sentence("16 about: NONE for another what");
        RetentionRows x = Scenes.withDestroyedUnit(5);
        x.certificate(0, 5);
        for (int what : new int[] {-1, -2, 9, 10, Integer.MIN_VALUE, Integer.MAX_VALUE}) {
            Checks.is("about(0, " + what + ")", x.about(0, what), RetentionRows.NONE);
        }
    }

    private static void dayOfAnEvent() {
        Checks.sentence("16 about: 0 .. 3: the day of that event, or -1");
        for (int kind = 0; kind < 4; kind++) {
            RetentionRows x = new RetentionRows();
            for (int day : new int[] {0, Scenes.LAST_DAY, 1}) {
                x.event(0, kind, day);
                for (int what = 0; what < 4; what++) {
                    Checks.is("about(0, " + what + ")", x.about(0, what), what == kind ? day : -1);
                }
            }
        }
    }

    private static void howManyRules() {
        Checks.sentence("16 about: 4: how many rules");
        RetentionRows x = Scenes.withRules(5);
        for (int rule = 0; rule < 5; rule++) {
            Checks.is("before rule " + rule, x.about(0, 4), rule);
            x.schedule(0, rule);
        }
        Checks.is("at most", x.about(0, 4), 4);
        Checks.is("another unit's", x.about(1, 4), 0);
    }

    private static void approvals() {
        Checks.sentence("16 about: 5: approvals");
        RetentionRows x = Scenes.withDueUnits(1, 0);
        Checks.is("none", x.about(0, 5), 0);
        x.approve(0, 0);
        Checks.is("one", x.about(0, 5), 1);
        x.approve(0, 99);
        Checks.is("two", x.about(0, 5), 2);
        x.approve(0, 5);
        Checks.is("at most", x.about(0, 5), 2);
        x.hold(0, 0, 0);
        Checks.is("taken away", x.about(0, 5), 0);
    }

    private static void disposedOf() {
        Checks.sentence("16 about: 6: 1 if it is DISPOSED, else 0");
        RetentionRows x = Scenes.withDueUnits(2, 0);
        Checks.is("before", x.about(0, 6), 0);
        Scenes.destroy(x, 0, 0);
        Checks.is("behind", x.about(0, 6), 1);
        x.certificate(0, 1);
        Checks.is("with a certificate", x.about(0, 6), 1);
        Checks.is("another", x.about(1, 6), 0);
    }

    private static void dayOfThat() {
        Checks.sentence("16 about: 7: the day of that, or -1");
        for (int day : new int[] {0, 1, Scenes.LAST_DAY}) {
            RetentionRows x = Scenes.withDueUnits(2, 0);
            Checks.is("before", x.about(0, 7), -1);
            Scenes.destroy(x, 0, day);
            Checks.is("behind", x.about(0, 7), day);
            Checks.is("another", x.about(1, 7), -1);
        }
    }

    private static void certificate() {
        Checks.sentence("16 about: 8: its certificate, or -1");
        for (int number : new int[] {1, 1000000}) {
            RetentionRows x = Scenes.withDueUnits(2, 0);
            Checks.is("before", x.about(0, 8), -1);
            Scenes.destroy(x, 0, 0);
            Checks.is("not yet", x.about(0, 8), -1);
            x.certificate(0, number);
            Checks.is("behind", x.about(0, 8), number);
            Checks.is("another", x.about(1, 8), -1);
        }
    }

    private static void firstAndLastUnit() {
        Checks.sentence("16 about: UNITS are 0 .. 59");
        for (int unit : new int[] {0, 59}) {
            RetentionRows x = Scenes.withRules("made 0 destroy");
            Scenes.makeDue(x, unit, 3);
            Scenes.destroy(x, unit, 4);
            x.certificate(unit, 5);
            int[] due = {3, -1, -1, -1, 1, 2, 1, 4, 5};
            for (int what = 0; what < due.length; what++) {
                Checks.is("about(" + unit + ", " + what + ")", x.about(unit, what), due[what]);
                Checks.is("about(30, " + what + ")", x.about(30, what),
                        what >= 4 && what <= 6 ? 0 : -1);
            }
        }
    }
}
