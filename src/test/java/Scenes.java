/** Objects in states that many tests start from, and numbers that can't be. */
final class Scenes {
    static final int LAST_DAY = 1000000;
    static final int[] NO_UNITS = {-1, 60, 61, Integer.MIN_VALUE, Integer.MAX_VALUE};
    static final int[] NO_DAYS = {-1, -2, 1000001, Integer.MIN_VALUE, Integer.MAX_VALUE};
    static final int[] NO_KINDS = {-1, 4, 5, Integer.MIN_VALUE, Integer.MAX_VALUE};

    private Scenes() {
    }

    static RetentionRows withRules(String... texts) {
        RetentionRows x = new RetentionRows();
        for (String text : texts) {
            Checks.rule(x, text);
        }
        return x;
    }

    static RetentionRows withRules(int count) {
        RetentionRows x = new RetentionRows();
        for (int i = 0; i < count; i++) {
            Checks.rule(x, "made 0 destroy");
        }
        return x;
    }

    /** Units 0 and on are due from a day on, by rule 0, to be destroyed. */
    static RetentionRows withDueUnits(int count, int day) {
        RetentionRows x = withRules("made 0 destroy");
        for (int unit = 0; unit < count; unit++) {
            makeDue(x, unit, day);
        }
        return x;
    }

    static void makeDue(RetentionRows x, int unit, int day) {
        x.event(unit, 0, day);
        x.schedule(unit, 0);
    }

    static void approveTwice(RetentionRows x, int unit) {
        x.approve(unit, 1);
        x.approve(unit, 2);
    }

    static void destroy(RetentionRows x, int unit, int day) {
        approveTwice(x, unit);
        x.dispose(unit, 0, day);
    }

    /** Unit 0 was destroyed on a day, by rule 0; it has both approvals and no certificate. */
    static RetentionRows withDestroyedUnit(int day) {
        RetentionRows x = withDueUnits(1, day);
        destroy(x, 0, day);
        return x;
    }
}
