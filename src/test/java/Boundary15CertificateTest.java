/** Promise 15, its boundary cases: numbers at their edges, and certificates that are refused. */
public final class Boundary15CertificateTest {
    private static final int[] NO_NUMBERS = {0, -1, 1000001, Integer.MIN_VALUE,
        Integer.MAX_VALUE};

    public static void main(String[] args) {
        noSuchUnit();
        numbersThatCanNotBe();
        leastAndMost();
        notDisposedOf();
        hasOne();
        orderOfRefusals();
        refusedCertificatesChangeNothing();
        everyUnit();
        Checks.end();
    }

    private static void noSuchUnit() {
        Checks.sentence("15 certificate: NONE");
        RetentionRows x = Scenes.withDestroyedUnit(0);
        for (int unit : Scenes.NO_UNITS) {
            Checks.is("unit " + unit, x.certificate(unit, 1), RetentionRows.NONE);
        }
        Checks.is("unit 0 has none", x.about(0, 8), -1);
    }

    private static void numbersThatCanNotBe() {
        Checks.sentence("15 certificate: RANGE");
        RetentionRows x = Scenes.withDestroyedUnit(0);
        for (int number : NO_NUMBERS) {
            Checks.is("number " + number, x.certificate(0, number), RetentionRows.RANGE);
            Checks.is("it has none", x.about(0, 8), -1);
        }
    }

    private static void leastAndMost() {
        Checks.sentence("15 certificate: 1 .. 1000000");
        for (int number : new int[] {1, 2, 999999, 1000000}) {
            RetentionRows x = Scenes.withDestroyedUnit(0);
            Checks.is("number " + number, x.certificate(0, number), 1);
            Checks.is("it has it", x.about(0, 8), number);
        }
    }

    private static void notDisposedOf() {
        Checks.sentence("15 certificate: STATE if it is not DISPOSED");
        RetentionRows x = Scenes.withDueUnits(2, 0);
        Checks.is("a unit with nothing", x.certificate(59, 1), RetentionRows.STATE);
        Checks.is("a unit that is due", x.certificate(0, 1), RetentionRows.STATE);
        Scenes.approveTwice(x, 0);
        Checks.is("a unit that is approved", x.certificate(0, 1), RetentionRows.STATE);
        Scenes.destroy(x, 1, 0);
        Checks.is("another was disposed of", x.certificate(0, 1), RetentionRows.STATE);
        Checks.is("it has none", x.about(0, 8), -1);
        x.certificate(1, 1);
        Scenes.destroy(x, 0, 0);
        Checks.is("disposed of now", x.certificate(0, 1), 1);
    }

    private static void hasOne() {
        Checks.sentence("15 certificate: STATE if it has one");
        for (int number : new int[] {1, 1000000}) {
            RetentionRows x = Scenes.withDestroyedUnit(0);
            x.certificate(0, number);
            Checks.is("the same again", x.certificate(0, number), RetentionRows.STATE);
            Checks.is("another number", x.certificate(0, 7), RetentionRows.STATE);
            Checks.is("the first is kept", x.about(0, 8), number);
        }
    }

    private static void orderOfRefusals() {
        Checks.sentence("15 certificate: NONE, RANGE; STATE, the first of these");
        RetentionRows x = Scenes.withDestroyedUnit(0);
        Checks.is("none before range", x.certificate(60, 0), RetentionRows.NONE);
        Checks.is("none before range, below", x.certificate(-1, 1000001), RetentionRows.NONE);
        Checks.is("range, not disposed of", x.certificate(1, 0), RetentionRows.RANGE);
        x.certificate(0, 1);
        Checks.is("range, has one", x.certificate(0, 1000001), RetentionRows.RANGE);
    }

    private static void refusedCertificatesChangeNothing() {
        Checks.sentence("15 certificate: a refused call changes nothing");
        RetentionRows x = Scenes.withDueUnits(2, 0);
        x.certificate(0, 5);
        Scenes.destroy(x, 0, 0);
        Checks.is("none from before", x.about(0, 8), -1);
        Scenes.approveTwice(x, 1);
        Checks.is("it is missed", x.dispose(1, 0, 0), -12);
    }

    private static void everyUnit() {
        Checks.sentence("15 certificate: the CERTIFICATE of a unit, UNITS being 0 .. 59");
        RetentionRows x = Scenes.withDueUnits(60, 0);
        for (int unit = 0; unit < 60; unit++) {
            Scenes.destroy(x, unit, 0);
            Checks.is("unit " + unit, x.certificate(unit, 1 + unit / 2), 1);
        }
        for (int unit = 0; unit < 60; unit++) {
            Checks.is("of unit " + unit, x.about(unit, 8), 1 + unit / 2);
        }
    }
}
