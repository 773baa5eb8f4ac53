import java.util.ArrayList;
import java.util.Comparator;
import java.util.HashMap;
import java.util.HashSet;
import java.util.LinkedHashSet;
import java.util.List;
import java.util.Map;
import java.util.Set;
import java.util.TreeMap;
import java.util.regex.Matcher;
import java.util.regex.Pattern;

/** Mixed runs of 512 calls, each answer compared with a slow model that follows the terms. */
public final class ModelRunsTest {
    private static final int RUNS = 3000;
    private static final int CALLS = 512;
    private static final int KINDS_OF_CALLS = 16;
    private static final int[] WILD = {
        Integer.MIN_VALUE, Integer.MIN_VALUE + 1, -3, -2, -1, 0, 1, 2, 3, 4, 5, 9, 19, 20, 40, 59,
        60, 99, 100, 365, 999, 1000, 999999, 1000000, 1000001, Integer.MAX_VALUE,
    };
    private static final String[] TEXTS = {
        "made 0 destroy", "used 1 transfer", "closed 2 destroy", "death 3 transfer",
        "made 12 transfer", "used 999 destroy", "closed 0 transfer", "death 00 destroy",
        "made 1000 destroy", "use 1 destroy", "made  1 destroy", "made 1 destroy ", "made 1",
    };

    private final Numbers numbers;
    private final RetentionRows rows = new RetentionRows();
    private final Model model = new Model();
    private final boolean tame;
    private int calls = 0;
    private String last = "";

    private ModelRunsTest(long seed, boolean tame) {
        numbers = new Numbers(seed);
        this.tame = tame;
    }

    public static void main(String[] args) {
        for (int run = 0; run < RUNS; run++) {
            new ModelRunsTest(run, run % 4 != 0).go(run);
        }
        Checks.end();
    }

    private void go(int run) {
        if (tame) {
            for (int i = 0; i < 4; i++) {
                tellText(run, TEXTS[numbers.below(8)]);
            }
        }
        while (calls < CALLS) {
            int kind = numbers.below(KINDS_OF_CALLS);
            if (kind == 0 || kind == 1 && !tame) {
                tellText(run, kind == 0 ? TEXTS[numbers.below(TEXTS.length)] : noise());
            } else {
                compare(run, kind);
            }
        }
    }

    /** A text that would go beyond the last call is left out: answers behind it are free. */
    private void tellText(int run, String text) {
        if (calls + text.length() + 1 > CALLS) {
            return;
        }
        for (char c : text.toCharArray()) {
            rows.sign(c);
            model.sign(c);
            calls++;
        }
        if (tame || numbers.below(4) != 0) {
            Checks.is("run " + run + ", rule() behind '" + text + "'", rows.rule(), model.rule());
            calls++;
        }
    }

    private String noise() {
        StringBuilder text = new StringBuilder(TEXTS[numbers.below(TEXTS.length)]);
        int times = 1 + numbers.below(3);
        for (int i = 0; i < times; i++) {
            char c = "a z019 deX\u00ff".charAt(numbers.below(10));
            int place = numbers.below(text.length());
            if (numbers.below(2) == 0) {
                text.setCharAt(place, c);
            } else {
                text.insert(place, c);
            }
        }
        return text.toString();
    }

    private int number(int tameBound) {
        if (tame && numbers.below(25) != 0) {
            return numbers.below(tameBound);
        }
        return WILD[numbers.below(WILD.length)];
    }

    private int unit() {
        return number(3);
    }

    private int dayNumber() {
        return number(numbers.below(2) == 0 ? 12 : 1200);
    }

    private void compare(int run, int kind) {
        int[] a = arguments(kind);
        int got = ask(kind, a);
        int due = model.ask(kind, a);
        calls++;
        Checks.is("run " + run + ", call " + calls + ", " + last, got, due);
    }

    private int[] arguments(int kind) {
        switch (kind) {
            case 1: return new int[] {number(6), number(4), dayNumber()};
            case 2: return new int[] {number(4), numbers.below(4) == 0 ? 1 : 0};
            case 3: return new int[] {unit(), number(4), dayNumber()};
            case 4: return new int[] {unit(), number(8)};
            case 5: return new int[] {unit(), number(4), tame ? numbers.below(40) - 2 : number(1)};
            case 6: return new int[] {unit(), dayNumber()};
            case 7: return new int[] {unit(), number(3000)};
            case 8: return new int[] {number(3000)};
            case 9: return new int[] {number(4), number(3)};
            case 10: case 11: return new int[] {unit(), number(5)};
            case 12: case 13: return new int[] {unit(), number(2), number(3000)};
            case 14: return new int[] {unit(), number(9)};
            default: return new int[] {numbers.below(2), unit(), number(1000)};
        }
    }

    private int ask(int kind, int[] a) {
        last = "kind " + kind + " of call with " + java.util.Arrays.toString(a);
        switch (kind) {
            case 1: return rows.change(a[0], a[1], a[2]);
            case 2: return rows.breaks(a[0], a[1] == 1) ? 1 : 0;
            case 3: return rows.event(a[0], a[1], a[2]);
            case 4: return rows.schedule(a[0], a[1]);
            case 5: return rows.hold(a[0], a[1], a[2]);
            case 6: return rows.except(a[0], a[1]);
            case 7: return rows.day(a[0], a[1]);
            case 8: return rows.due(a[0]);
            case 9: return Checks.at(rows, a[0], a[1]);
            case 10: case 11: return rows.approve(a[0], a[1]);
            case 12: case 13: return rows.dispose(a[0], a[1], a[2]);
            case 14: return rows.about(a[0], a[1]);
            default: return a[0] == 0 ? Checks.history(rows, a[1]) : rows.certificate(a[1], a[2]);
        }
    }

    /** Numbers that look mixed and are the same in every run. */
    private static final class Numbers {
        private long state;

        Numbers(long seed) {
            state = seed * 7919L + 17;
        }

        int below(int bound) {
            state = state * 6364136223846793005L + 1442695040888963407L;
            return (int) ((state >>> 33) % bound);
        }
    }

    private static final class ModelRule {
        String event;
        int years;
        String action;
        boolean broken;
        final TreeMap<Integer, Integer> changes = new TreeMap<>();

        int yearsOn(int on) {
            Map.Entry<Integer, Integer> change = changes.floorEntry(on);
            return change == null ? years : change.getValue();
        }
    }

    private static final class ModelUnit {
        final Map<String, Integer> events = new HashMap<>();
        final LinkedHashSet<ModelRule> rules = new LinkedHashSet<>();
        final Map<Integer, Integer> holds = new HashMap<>();
        final Set<Integer> approvals = new HashSet<>();
        Integer exception;
        Integer disposedOn;
        Integer certificate;

        boolean fails() {
            return rules.stream().anyMatch(rule -> rule.broken);
        }

        Integer dayOf(ModelRule rule, int on) {
            Integer day = events.get(rule.event);
            return day == null ? null : Integer.valueOf(day + 365 * rule.yearsOn(on));
        }

        Integer dueDay(int on) {
            if (rules.isEmpty() || fails()
                    || rules.stream().anyMatch(rule -> dayOf(rule, on) == null)) {
                return null;
            }
            return rules.stream().mapToInt(rule -> dayOf(rule, on)).max().getAsInt();
        }

        int action(int on) {
            String action = rules.stream().filter(rule -> dayOf(rule, on).equals(dueDay(on)))
                    .findFirst().get().action;
            return action.equals("destroy") ? 0 : 1;
        }

        boolean isDue(int on) {
            return disposedOn == null && dueDay(on) != null && dueDay(on) <= on
                    && (exception == null || on > exception);
        }

        boolean isHeld(int on) {
            return holds.values().stream().anyMatch(until -> until == -1 || on <= until);
        }
    }

    private static final class Model {
        private static final List<String> EVENTS = List.of("made", "used", "closed", "death");
        private final StringBuilder text = new StringBuilder();
        private final List<ModelRule> rules = new ArrayList<>();
        private final List<ModelUnit> units = new ArrayList<>();
        private List<int[]> listed = new ArrayList<>();
        private final List<Integer> history = new ArrayList<>();

        Model() {
            for (int i = 0; i < 60; i++) {
                units.add(new ModelUnit());
            }
        }

        void sign(int c) {
            text.append((char) (c & 255));
        }

        int rule() {
            String told = text.toString();
            text.setLength(0);
            String[] parts = {"(made|used|closed|death)(?![a-z])", " ", "[0-9]{1,3}", " ",
                "(destroy|transfer)(?![a-z])", "$(?!\n)"};
            int place = 0;
            for (String part : parts) {
                Matcher matcher = Pattern.compile(part).matcher(told).useTransparentBounds(true);
                matcher.region(place, told.length());
                if (!matcher.lookingAt()) {
                    return -10 - place;
                }
                place = matcher.end();
            }
            if (rules.size() == 20) {
                return -4;
            }
            ModelRule rule = new ModelRule();
            String[] words = told.split(" ");
            rule.event = words[0];
            rule.years = Integer.parseInt(words[1]);
            rule.action = words[2];
            rules.add(rule);
            return rules.size() - 1;
        }

        private static boolean out(int number, int least, int most) {
            return number < least || number > most;
        }

        private static boolean noDay(int day) {
            return out(day, 0, 1000000);
        }

        private boolean noRule(int rule) {
            return out(rule, 0, rules.size() - 1);
        }

        int ask(int kind, int[] a) {
            switch (kind) {
                case 1: return change(a[0], a[1], a[2]);
                case 2: return breaks(a[0], a[1] == 1);
                case 8: return due(a[0]);
                case 9: return out(a[0], 0, listed.size() - 1) || out(a[1], 0, 2)
                        ? Checks.THROWN : listed.get(a[0])[a[1]];
                default: break;
            }
            if (kind == 15 && a[0] == 0) {
                return out(a[1], 0, history.size() - 1) ? Checks.THROWN : history.get(a[1]);
            }
            int number = kind == 15 ? a[1] : a[0];
            if (out(number, 0, 59)) {
                return kind == 7 ? -2 : -1;
            }
            return askUnit(kind, number, units.get(number), a);
        }

        private int askUnit(int kind, int number, ModelUnit unit, int[] a) {
            switch (kind) {
                case 3: return event(unit, a[1], a[2]);
                case 4: return schedule(unit, a[1]);
                case 5: return hold(unit, a[1], a[2]);
                case 6: return except(unit, a[1]);
                case 7: return day(unit, a[1]);
                case 10: case 11: return approve(unit, a[1]);
                case 12: case 13: return dispose(number, unit, a[1], a[2]);
                case 14: return about(unit, a[1]);
                default: return certificate(unit, a[2]);
            }
        }

        private int change(int rule, int years, int day) {
            if (noRule(rule)) {
                return -1;
            }
            if (out(years, 0, 999) || noDay(day)) {
                return -2;
            }
            TreeMap<Integer, Integer> changes = rules.get(rule).changes;
            if (changes.ceilingKey(day) != null) {
                return -3;
            }
            if (changes.size() == 5) {
                return -4;
            }
            changes.put(day, years);
            return 1;
        }

        private int breaks(int rule, boolean on) {
            if (noRule(rule)) {
                return 0;
            }
            boolean before = rules.get(rule).broken;
            rules.get(rule).broken = on;
            return before ? 1 : 0;
        }

        private int due(int on) {
            if (noDay(on)) {
                return -2;
            }
            listed = new ArrayList<>();
            for (int i = 0; i < 60; i++) {
                ModelUnit unit = units.get(i);
                if (unit.isDue(on)) {
                    listed.add(new int[] {i, unit.dueDay(on), unit.action(on)});
                }
            }
            listed.sort(Comparator.<int[]>comparingInt(row -> row[1])
                    .thenComparingInt(row -> row[0]));
            return listed.size();
        }

        private int event(ModelUnit unit, int kind, int day) {
            if (out(kind, 0, 3) || noDay(day)) {
                return -2;
            }
            if (unit.disposedOn != null) {
                return -3;
            }
            unit.events.put(EVENTS.get(kind), day);
            unit.approvals.clear();
            return 1;
        }

        private int schedule(ModelUnit unit, int rule) {
            if (noRule(rule)) {
                return -1;
            }
            if (unit.disposedOn != null || unit.rules.contains(rules.get(rule))) {
                return -3;
            }
            if (unit.rules.size() == 4) {
                return -4;
            }
            unit.rules.add(rules.get(rule));
            unit.approvals.clear();
            return unit.rules.size();
        }

        private int hold(ModelUnit unit, int kind, int until) {
            if (out(kind, 0, 3) || out(until, -1, 1000000)) {
                return -2;
            }
            unit.holds.put(kind, until);
            unit.approvals.clear();
            return 1;
        }

        private int except(ModelUnit unit, int until) {
            if (noDay(until)) {
                return -2;
            }
            unit.exception = until;
            unit.approvals.clear();
            return 1;
        }

        private int day(ModelUnit unit, int on) {
            if (noDay(on)) {
                return -2;
            }
            if (unit.fails()) {
                return -3;
            }
            return unit.dueDay(on) == null ? -1 : unit.dueDay(on);
        }

        private int approve(ModelUnit unit, int person) {
            if (out(person, 0, 99)) {
                return -2;
            }
            if (unit.disposedOn != null || unit.approvals.size() == 2
                    || !unit.approvals.add(person)) {
                return -3;
            }
            return unit.approvals.size();
        }

        private int dispose(int number, ModelUnit unit, int action, int day) {
            if (out(action, 0, 1) || noDay(day)) {
                return -2;
            }
            boolean[] against = {
                unit.disposedOn != null,
                !history.isEmpty()
                        && units.get(history.get(history.size() - 1)).certificate == null,
                unit.fails(),
                !unit.isDue(day),
                unit.isHeld(day),
                unit.approvals.size() < 2,
            };
            for (int i = 0; i < against.length; i++) {
                if (against[i]) {
                    return -11 - i;
                }
            }
            if (unit.action(day) != action) {
                return -17;
            }
            unit.disposedOn = day;
            history.add(number);
            return 1;
        }

        private int certificate(ModelUnit unit, int number) {
            if (out(number, 1, 1000000)) {
                return -2;
            }
            if (unit.disposedOn == null || unit.certificate != null) {
                return -3;
            }
            unit.certificate = number;
            return 1;
        }

        private int about(ModelUnit unit, int what) {
            if (!out(what, 0, 3)) {
                return unit.events.getOrDefault(EVENTS.get(what), -1);
            }
            switch (what) {
                case 4: return unit.rules.size();
                case 5: return unit.approvals.size();
                case 6: return unit.disposedOn == null ? 0 : 1;
                case 7: return unit.disposedOn == null ? -1 : unit.disposedOn;
                case 8: return unit.certificate == null ? -1 : unit.certificate;
                default: return -1;
            }
        }
    }
}
