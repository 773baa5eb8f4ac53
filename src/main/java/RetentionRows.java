import java.util.NoSuchElementException;

/**
 * Retention of units: rules told as texts, the days on which units are due for disposal, what
 * stands against a disposal, and which disposals were done.
 */
public final class RetentionRows {
    public static final int NONE = -1;
    public static final int RANGE = -2;
    public static final int STATE = -3;
    public static final int FULL = -4;

    private static final int UNITS = 60;
    private static final int RULES = 20;
    private static final int RULES_OF_A_UNIT = 4;
    private static final int CHANGES_OF_A_RULE = 5;
    private static final int EVENT_KINDS = 4;
    private static final int HOLD_KINDS = 4;
    private static final int PERSONS = 100;
    private static final int APPROVALS_WANTED = 2;
    private static final int LAST_DAY = 1000000;
    private static final int DAYS_OF_A_YEAR = 365;
    private static final int MOST_YEARS = 999;
    private static final int MOST_DIGITS = 3;
    private static final int LAST_CERTIFICATE = 1000000;
    private static final int TEXT_ROOM = 40;

    private static final int DONE = 1;
    private static final int NEVER = -1;
    private static final int NOT_THERE = -1;
    private static final int NO_END = -1;
    private static final int NO_HOLD = -2;
    private static final int NO_SUCH_DAY = -2;
    private static final int DAY_FAILS = -3;
    private static final int TEXT_END = -1;

    private static final int DESTROY = 0;
    private static final int TRANSFER = 1;

    /** Places in a text and obstacles to a disposal are told as this number less the place. */
    private static final int TOLD_FROM = -10;

    private static final int NO_OBSTACLE = 0;
    private static final int DISPOSED_ALREADY = 1;
    private static final int CERTIFICATE_MISSING = 2;
    private static final int RULE_FAILS = 3;
    private static final int NOT_DUE = 4;
    private static final int HELD = 5;
    private static final int NOT_APPROVED = 6;
    private static final int OTHER_ACTION = 7;

    private static final int LISTED_UNIT = 0;
    private static final int LISTED_DAY = 1;
    private static final int LISTED_ACTION = 2;

    private static final int ABOUT_RULES = 4;
    private static final int ABOUT_APPROVALS = 5;
    private static final int ABOUT_DISPOSED = 6;
    private static final int ABOUT_DISPOSAL_DAY = 7;
    private static final int ABOUT_CERTIFICATE = 8;

    private final RuleText text;
    private final Rule[] rules;
    private int ruleCount;
    private final Unit[] units;
    private final DueList list;
    private final int[] disposed;
    private int disposedCount;

    public RetentionRows() {
        text = new RuleText();
        rules = new Rule[RULES];
        units = new Unit[UNITS];
        for (int i = 0; i < units.length; i++) {
            units[i] = new Unit();
        }
        list = new DueList();
        disposed = new int[UNITS];
    }

    public void sign(int c) {
        text.collect(c);
    }

    public int rule() {
        boolean fits = text.read();
        text.clear();
        if (!fits) {
            return TOLD_FROM - text.place();
        }
        if (ruleCount < 0 || ruleCount >= rules.length) {
            return FULL;
        }
        rules[ruleCount] = new Rule(text.eventKind(), text.years(), text.action());
        ruleCount++;
        return ruleCount - 1;
    }

    public int change(int rule, int years, int day) {
        Rule asked = findRule(rule);
        if (asked == null) {
            return NONE;
        }
        if (years < 0 || years > MOST_YEARS || !isDay(day)) {
            return RANGE;
        }
        if (asked.isChangedFrom(day)) {
            return STATE;
        }
        return asked.addChange(years, day) ? DONE : FULL;
    }

    public boolean breaks(int rule, boolean on) {
        Rule asked = findRule(rule);
        if (asked == null) {
            return false;
        }
        boolean before = asked.isBroken();
        asked.setBroken(on);
        return before;
    }

    public int event(int unit, int kind, int day) {
        Unit asked = findUnit(unit);
        if (asked == null) {
            return NONE;
        }
        if (kind < 0 || kind >= EVENT_KINDS || !isDay(day)) {
            return RANGE;
        }
        if (asked.isDisposed()) {
            return STATE;
        }
        asked.setEvent(kind, day);
        return DONE;
    }

    public int schedule(int unit, int rule) {
        Unit askedUnit = findUnit(unit);
        Rule askedRule = findRule(rule);
        if (askedUnit == null || askedRule == null) {
            return NONE;
        }
        if (askedUnit.isDisposed() || askedUnit.hasRule(askedRule)) {
            return STATE;
        }
        return askedUnit.addRule(askedRule) ? askedUnit.ruleCount() : FULL;
    }

    public int hold(int unit, int kind, int until) {
        Unit asked = findUnit(unit);
        if (asked == null) {
            return NONE;
        }
        if (kind < 0 || kind >= HOLD_KINDS || (until != NO_END && !isDay(until))) {
            return RANGE;
        }
        asked.setHold(kind, until);
        return DONE;
    }

    public int except(int unit, int until) {
        Unit asked = findUnit(unit);
        if (asked == null) {
            return NONE;
        }
        if (!isDay(until)) {
            return RANGE;
        }
        asked.setException(until);
        return DONE;
    }

    public int day(int unit, int on) {
        Unit asked = findUnit(unit);
        if (asked == null || !isDay(on)) {
            return NO_SUCH_DAY;
        }
        return asked.hasBrokenRule() ? DAY_FAILS : asked.dueDay(on);
    }

    public int due(int on) {
        if (!isDay(on)) {
            return RANGE;
        }
        list.clear();
        for (int i = 0; i < units.length; i++) {
            Unit asked = units[i];
            if (asked != null && asked.isDue(on)) {
                list.insert(i, asked.dueDay(on), asked.dueAction(on));
            }
        }
        return list.size();
    }

    public int at(int i, int what) throws NoSuchElementException {
        if (!list.has(i) || what < LISTED_UNIT || what > LISTED_ACTION) {
            throw new NoSuchElementException("nothing such is listed");
        }
        return list.told(i, what);
    }

    public int approve(int unit, int person) {
        Unit asked = findUnit(unit);
        if (asked == null) {
            return NONE;
        }
        if (person < 0 || person >= PERSONS) {
            return RANGE;
        }
        if (asked.isDisposed() || asked.isApproved() || asked.isApprovedBy(person)) {
            return STATE;
        }
        asked.addApproval(person);
        return asked.approvalCount();
    }

    public int dispose(int unit, int action, int day) {
        Unit asked = findUnit(unit);
        if (asked == null) {
            return NONE;
        }
        if ((action != DESTROY && action != TRANSFER) || !isDay(day)) {
            return RANGE;
        }
        int obstacle = obstacleTo(asked, action, day);
        if (obstacle != NO_OBSTACLE) {
            return TOLD_FROM - obstacle;
        }
        asked.setDisposed(day);
        keepDisposed(unit);
        return DONE;
    }

    public int certificate(int unit, int number) {
        Unit asked = findUnit(unit);
        if (asked == null) {
            return NONE;
        }
        if (number < 1 || number > LAST_CERTIFICATE) {
            return RANGE;
        }
        if (!asked.isDisposed() || asked.hasCertificate()) {
            return STATE;
        }
        asked.setCertificate(number);
        return DONE;
    }

    public int about(int unit, int what) {
        Unit asked = findUnit(unit);
        if (asked == null) {
            return NONE;
        }
        switch (what) {
            case ABOUT_RULES:
                return asked.ruleCount();
            case ABOUT_APPROVALS:
                return asked.approvalCount();
            case ABOUT_DISPOSED:
                return asked.isDisposed() ? 1 : 0;
            case ABOUT_DISPOSAL_DAY:
                return asked.disposalDay();
            case ABOUT_CERTIFICATE:
                return asked.certificateNumber();
            default:
                return what >= 0 && what < EVENT_KINDS ? asked.eventDay(what) : NONE;
        }
    }

    public int history(int i) throws NoSuchElementException {
        if (i < 0 || i >= disposedCount || i >= disposed.length) {
            throw new NoSuchElementException("no such disposal");
        }
        return disposed[i];
    }

    private Unit findUnit(int unit) {
        return unit >= 0 && unit < units.length ? units[unit] : null;
    }

    private Rule findRule(int rule) {
        return rule >= 0 && rule < ruleCount && rule < rules.length ? rules[rule] : null;
    }

    private static boolean isDay(int day) {
        return day >= 0 && day <= LAST_DAY;
    }

    /** The document tells the first obstacle alone, so the order of these tests is its order. */
    private int obstacleTo(Unit asked, int action, int day) {
        if (asked.isDisposed()) {
            return DISPOSED_ALREADY;
        }
        if (isCertificateMissing()) {
            return CERTIFICATE_MISSING;
        }
        if (asked.hasBrokenRule()) {
            return RULE_FAILS;
        }
        if (!asked.isDue(day)) {
            return NOT_DUE;
        }
        if (asked.isHeld(day)) {
            return HELD;
        }
        if (!asked.isApproved()) {
            return NOT_APPROVED;
        }
        return asked.dueAction(day) == action ? NO_OBSTACLE : OTHER_ACTION;
    }

    private boolean isCertificateMissing() {
        int last = disposedCount - 1;
        if (last < 0 || last >= disposed.length) {
            return false;
        }
        Unit latest = findUnit(disposed[last]);
        return latest != null && !latest.hasCertificate();
    }

    private void keepDisposed(int unit) {
        if (disposedCount >= 0 && disposedCount < disposed.length) {
            disposed[disposedCount] = unit;
            disposedCount++;
        }
    }

    /** The signs that are collected, and what was read from them as a rule. */
    private static final class RuleText {
        private final int[] signs = new int[TEXT_ROOM];
        private int length;
        private int place;
        private int eventKind;
        private int years;
        private int action;

        void collect(int c) {
            if (length >= 0 && length < signs.length) {
                signs[length] = c & 255;
                length++;
            }
        }

        void clear() {
            length = 0;
        }

        /** Whether the signs are a rule; if they are not, place() is where they are wrong. */
        boolean read() {
            place = 0;
            return readEvent() && readSpace() && readYears() && readSpace() && readAction()
                    && place == length;
        }

        int place() {
            return place;
        }

        int eventKind() {
            return eventKind;
        }

        int years() {
            return years;
        }

        int action() {
            return action;
        }

        private boolean readEvent() {
            int end = wordEnd();
            for (int kind = 0; kind < EVENT_KINDS; kind++) {
                if (isWord(eventWord(kind), end)) {
                    eventKind = kind;
                    place = end;
                    return true;
                }
            }
            return false;
        }

        private boolean readAction() {
            int end = wordEnd();
            if (isWord("destroy", end)) {
                action = DESTROY;
            } else if (isWord("transfer", end)) {
                action = TRANSFER;
            } else {
                return false;
            }
            place = end;
            return true;
        }

        private boolean readSpace() {
            if (signAt(place) != ' ') {
                return false;
            }
            place++;
            return true;
        }

        /** A fourth digit is left in its place: there the space that must follow is missed. */
        private boolean readYears() {
            int first = place;
            years = 0;
            while (place - first < MOST_DIGITS && isDigit(signAt(place))) {
                years = years * 10 + signAt(place) - '0';
                place++;
            }
            return place > first;
        }

        private static String eventWord(int kind) {
            switch (kind) {
                case 0:
                    return "made";
                case 1:
                    return "used";
                case 2:
                    return "closed";
                default:
                    return "death";
            }
        }

        private int wordEnd() {
            int end = place;
            while (end < length && isSmallLetter(signAt(end))) {
                end++;
            }
            return end;
        }

        private boolean isWord(String word, int end) {
            if (end - place != word.length()) {
                return false;
            }
            for (int i = 0; i < word.length(); i++) {
                if (signAt(place + i) != word.charAt(i)) {
                    return false;
                }
            }
            return true;
        }

        private int signAt(int i) {
            return i >= 0 && i < length && i < signs.length ? signs[i] : TEXT_END;
        }

        private static boolean isSmallLetter(int c) {
            return c >= 'a' && c <= 'z';
        }

        private static boolean isDigit(int c) {
            return c >= '0' && c <= '9';
        }
    }

    /** A rule with the changes of its years, which stand in the order of their days. */
    private static final class Rule {
        private final int eventKind;
        private final int firstYears;
        private final int action;
        private final int[] changeDays = new int[CHANGES_OF_A_RULE];
        private final int[] changeYears = new int[CHANGES_OF_A_RULE];
        private int changeCount;
        private boolean broken;

        Rule(int eventKind, int firstYears, int action) {
            this.eventKind = eventKind;
            this.firstYears = firstYears;
            this.action = action;
        }

        int eventKind() {
            return eventKind;
        }

        int action() {
            return action;
        }

        boolean isBroken() {
            return broken;
        }

        void setBroken(boolean on) {
            broken = on;
        }

        boolean isChangedFrom(int day) {
            int last = changeCount - 1;
            return last >= 0 && last < CHANGES_OF_A_RULE && changeDays[last] >= day;
        }

        boolean addChange(int years, int day) {
            int next = changeCount;
            if (next < 0 || next >= CHANGES_OF_A_RULE) {
                return false;
            }
            changeDays[next] = day;
            changeYears[next] = years;
            changeCount = next + 1;
            return true;
        }

        int dueDay(int eventDay, int on) {
            return eventDay == NOT_THERE ? NEVER : eventDay + yearsOn(on) * DAYS_OF_A_YEAR;
        }

        private int yearsOn(int on) {
            int years = firstYears;
            for (int i = 0; i < changeCount && i < CHANGES_OF_A_RULE; i++) {
                if (changeDays[i] <= on) {
                    years = changeYears[i];
                }
            }
            return years;
        }
    }

    /** A unit with its events, its row of rules, and what stands for or against its disposal. */
    private static final class Unit {
        private final int[] eventDays = new int[EVENT_KINDS];
        private final Rule[] row = new Rule[RULES_OF_A_UNIT];
        private int ruleCount;
        private final int[] holds = new int[HOLD_KINDS];
        private int exceptionUntil = NOT_THERE;
        private int approvals;
        private int firstPerson = NOT_THERE;
        private int disposalDay = NOT_THERE;
        private int certificate = NOT_THERE;

        Unit() {
            for (int i = 0; i < eventDays.length; i++) {
                eventDays[i] = NOT_THERE;
            }
            for (int i = 0; i < holds.length; i++) {
                holds[i] = NO_HOLD;
            }
        }

        void setEvent(int kind, int day) {
            if (kind >= 0 && kind < eventDays.length) {
                eventDays[kind] = day;
                takeApprovalsAway();
            }
        }

        int eventDay(int kind) {
            return kind >= 0 && kind < eventDays.length ? eventDays[kind] : NOT_THERE;
        }

        boolean addRule(Rule rule) {
            if (ruleCount < 0 || ruleCount >= row.length) {
                return false;
            }
            row[ruleCount] = rule;
            ruleCount++;
            takeApprovalsAway();
            return true;
        }

        int ruleCount() {
            return ruleCount;
        }

        boolean hasRule(Rule rule) {
            for (int i = 0; i < ruleCount && i < row.length; i++) {
                if (row[i] == rule) {
                    return true;
                }
            }
            return false;
        }

        boolean hasBrokenRule() {
            for (int i = 0; i < ruleCount && i < row.length; i++) {
                Rule rule = row[i];
                if (rule != null && rule.isBroken()) {
                    return true;
                }
            }
            return false;
        }

        void setHold(int kind, int until) {
            if (kind >= 0 && kind < holds.length) {
                holds[kind] = until;
                takeApprovalsAway();
            }
        }

        boolean isHeld(int day) {
            for (int i = 0; i < holds.length; i++) {
                if (holds[i] == NO_END || holds[i] >= day) {
                    return true;
                }
            }
            return false;
        }

        void setException(int until) {
            exceptionUntil = until;
            takeApprovalsAway();
        }

        int dueDay(int on) {
            Rule rule = decidingRule(on);
            return rule == null ? NEVER : rule.dueDay(eventDay(rule.eventKind()), on);
        }

        int dueAction(int on) {
            Rule rule = decidingRule(on);
            return rule == null ? NONE : rule.action();
        }

        boolean isDue(int on) {
            if (isDisposed() || exceptionUntil >= on) {
                return false;
            }
            int dueDay = dueDay(on);
            return dueDay != NEVER && dueDay <= on;
        }

        void addApproval(int person) {
            if (approvals == 0) {
                firstPerson = person;
            }
            approvals++;
        }

        int approvalCount() {
            return approvals;
        }

        boolean isApproved() {
            return approvals >= APPROVALS_WANTED;
        }

        /** Whoever came second needs no keeping: behind two approvals no third is taken. */
        boolean isApprovedBy(int person) {
            return approvals > 0 && firstPerson == person;
        }

        void setDisposed(int day) {
            disposalDay = day;
        }

        boolean isDisposed() {
            return disposalDay != NOT_THERE;
        }

        int disposalDay() {
            return disposalDay;
        }

        void setCertificate(int number) {
            certificate = number;
        }

        boolean hasCertificate() {
            return certificate != NOT_THERE;
        }

        int certificateNumber() {
            return certificate;
        }

        private void takeApprovalsAway() {
            approvals = 0;
        }

        /** The first of the rules with the latest day; null if the unit is NEVER due. */
        private Rule decidingRule(int on) {
            Rule deciding = null;
            int latest = NEVER;
            for (int i = 0; i < ruleCount && i < row.length; i++) {
                Rule rule = row[i];
                if (rule == null || rule.isBroken()) {
                    return null;
                }
                int ruleDay = rule.dueDay(eventDay(rule.eventKind()), on);
                if (ruleDay == NEVER) {
                    return null;
                }
                if (ruleDay > latest) {
                    latest = ruleDay;
                    deciding = rule;
                }
            }
            return deciding;
        }
    }

    /** What was listed last, kept as it was then. */
    private static final class DueList {
        private final int[] units = new int[UNITS];
        private final int[] days = new int[UNITS];
        private final int[] actions = new int[UNITS];
        private int size;

        void clear() {
            size = 0;
        }

        int size() {
            return size;
        }

        boolean has(int i) {
            return i >= 0 && i < size;
        }

        /** Units come in the order of their numbers, so one of an equal day goes behind. */
        void insert(int unit, int dueDay, int action) {
            if (size < 0 || size >= UNITS) {
                return;
            }
            int free = size;
            while (free > 0 && days[free - 1] > dueDay) {
                put(free, units[free - 1], days[free - 1], actions[free - 1]);
                free--;
            }
            put(free, unit, dueDay, action);
            size++;
        }

        int told(int i, int what) {
            if (i < 0 || i >= UNITS) {
                return NONE;
            }
            if (what == LISTED_UNIT) {
                return units[i];
            }
            return what == LISTED_DAY ? days[i] : actions[i];
        }

        private void put(int i, int unit, int dueDay, int action) {
            if (i >= 0 && i < UNITS) {
                units[i] = unit;
                days[i] = dueDay;
                actions[i] = action;
            }
        }
    }
}
