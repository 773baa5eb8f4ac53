/** Promise 17, its boundary cases: what is not there, and the first and the last of all. */
public final class Boundary17HistoryTest {
    public static void main(String[] args) {
        noneSuchAtFirst();
        noneSuchBehindSome();
        theFirstAndTheLast();
        inTheOrderOfWhatWasDone();
        refusedDisposalsAreNotThere();
        historyStays();
        Checks.end();
    }

    private static void noneSuch(RetentionRows x, int... places) {
        for (int i : places) {
            Checks.is("history(" + i + ")", Checks.history(x, i), Checks.THROWN);
        }
    }

    private static void noneSuchAtFirst() {
        Checks.sentence("17 history: NoSuchElementException if there is none such: none yet");
        RetentionRows x = Scenes.withDueUnits(2, 0);
        noneSuch(x, -1, 0, 1, 59, 60, Integer.MIN_VALUE, Integer.MAX_VALUE);
    }

    private static void noneSuchBehindSome() {
        Checks.sentence("17 history: NoSuchElementException if there is none such");
        RetentionRows x = Scenes.withDueUnits(3, 0);
        for (int unit = 0; unit < 3; unit++) {
            noneSuch(x, unit);
            Scenes.destroy(x, unit, 0);
            x.certificate(unit, 1);
            Checks.is("the newest", Checks.history(x, unit), unit);
            noneSuch(x, unit + 1);
        }
        noneSuch(x, -1, 3, 59, 60, Integer.MIN_VALUE, Integer.MAX_VALUE);
    }

    private static void theFirstAndTheLast() {
        Checks.sentence("17 history: the i-th unit, from 0 on: the first and the last");
        RetentionRows x = Scenes.withDueUnits(60, 0);
        for (int i = 0; i < 60; i++) {
            int unit = i * 7 % 60;
            Scenes.destroy(x, unit, 0);
            x.certificate(unit, 1);
        }
        for (int i = 0; i < 60; i++) {
            Checks.is("history(" + i + ")", Checks.history(x, i), i * 7 % 60);
        }
        noneSuch(x, -1, 60, 61);
    }

    private static void inTheOrderOfWhatWasDone() {
        Checks.sentence("17 history: the i-th that was DISPOSED of, not by days or numbers");
        RetentionRows x = Scenes.withDueUnits(60, 0);
        int[] units = {30, 59, 0, 1};
        int[] days = {10, 9, Scenes.LAST_DAY, 0};
        for (int i = 0; i < units.length; i++) {
            Scenes.destroy(x, units[i], days[i]);
            x.certificate(units[i], 1);
        }
        for (int i = 0; i < units.length; i++) {
            Checks.is("history(" + i + ")", Checks.history(x, i), units[i]);
        }
    }

    private static void refusedDisposalsAreNotThere() {
        Checks.sentence("17 history: a refused disposal is not there");
        RetentionRows x = Scenes.withDueUnits(3, 10);
        x.dispose(2, 0, 10);
        Scenes.destroy(x, 2, 9);
        x.dispose(2, 1, 10);
        noneSuch(x, 0);
        Scenes.destroy(x, 1, 10);
        x.dispose(1, 0, 10);
        x.dispose(2, 0, 10);
        x.dispose(60, 0, 10);
        Checks.is("the one that was", Checks.history(x, 0), 1);
        noneSuch(x, 1);
    }

    private static void historyStays() {
        Checks.sentence("17 history: what was done stays");
        RetentionRows x = Scenes.withDestroyedUnit(0);
        x.certificate(0, 1);
        x.hold(0, 0, -1);
        x.except(0, 5);
        x.breaks(0, true);
        x.due(5);
        x.event(0, 0, 9);
        Checks.is("history(0)", Checks.history(x, 0), 0);
        noneSuch(x, 1);
    }
}
