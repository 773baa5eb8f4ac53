/** What the document says of an object's calls: up to the 512th all answers are promised. */
public final class BoundaryCallsTest {
    private static final int CALLS = 512;

    public static void main(String[] args) {
        signsAlone();
        listsOfAll();
        textsAlone();
        refusedCallsAlone();
        objectsBesideEachOther();
        Checks.end();
    }

    private static void signsAlone() {
        Checks.sentence("What it is: at most 512 calls: signs");
        RetentionRows x = new RetentionRows();
        for (int i = 0; i < CALLS - 16; i++) {
            x.sign(' ');
        }
        Checks.is("behind 496 spaces", x.rule(), -10);
        Checks.is("a rule by the last calls", Checks.rule(x, "made 1 destroy"), 0);
    }

    private static void listsOfAll() {
        Checks.sentence("What it is: at most 512 calls: lists of all units");
        RetentionRows x = Scenes.withRules("made 0 destroy");
        for (int unit = 0; unit < 60; unit++) {
            Scenes.makeDue(x, unit, 60 - unit);
        }
        for (int calls = 15 + 120; calls < CALLS - 1; calls++) {
            Checks.is("call " + calls, x.due(60), 60);
        }
        Checks.is("the last call", Checks.at(x, 0, 0), 59);
    }

    private static void textsAlone() {
        Checks.sentence("What it is: at most 512 calls: texts of rules");
        RetentionRows x = new RetentionRows();
        for (int i = 0; i < CALLS / 16; i++) {
            Checks.is("text " + i, Checks.rule(x, "made 1 transfer"),
                    i < 20 ? i : RetentionRows.FULL);
        }
    }

    private static void refusedCallsAlone() {
        Checks.sentence("What it is: at most 512 calls: refused ones");
        RetentionRows x = new RetentionRows();
        for (int i = 0; i < CALLS / 8; i++) {
            Checks.is("change", x.change(0, 0, 0), RetentionRows.NONE);
            Checks.is("event", x.event(0, 4, 0), RetentionRows.RANGE);
            Checks.is("hold", x.hold(0, 0, -2), RetentionRows.RANGE);
            Checks.is("except", x.except(60, 0), RetentionRows.NONE);
            Checks.is("due", x.due(-1), RetentionRows.RANGE);
            Checks.is("at", Checks.at(x, 0, 0), Checks.THROWN);
            Checks.is("history", Checks.history(x, 0), Checks.THROWN);
            Checks.is("rule", x.rule(), -10);
        }
    }

    private static void objectsBesideEachOther() {
        Checks.sentence("1 A new object: what was told to another is not there");
        RetentionRows one = Scenes.withDestroyedUnit(0);
        one.due(0);
        one.breaks(0, true);
        Checks.signs(one, "made");
        RetentionRows other = new RetentionRows();
        Checks.is("rules", other.schedule(0, 0), RetentionRows.NONE);
        Checks.is("signs", Checks.rule(other, "made 0 destroy"), 0);
        Checks.is("broken", other.breaks(0, false), false);
        Checks.is("disposed of", other.about(0, 6), 0);
        Checks.is("events", other.about(0, 0), -1);
        Checks.is("history", Checks.history(other, 0), Checks.THROWN);
        Checks.is("signs of the one", Checks.rule(one, " 0 destroy"), 1);
    }
}
