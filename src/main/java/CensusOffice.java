import java.util.ArrayList;
import java.util.Arrays;

/**
 * An office that counts: a register, questionnaires, edits, samples, tables with secret cells,
 * rounded numbers, and releases. The document's promises are kept by the methods of the face;
 * each of them tests what it is called with, and leaves the work to one of the classes below.
 */
public final class CensusOffice {
    public static final int NONE = -1;
    public static final int ABSENT = -2000000;
    public static final int NOT_YET = -12;
    public static final int NO_RIGHT = -13;
    public static final int SECRET = -14;

    private static final int MINUTES_A_DAY = 1440;
    private static final int MOST_TICKS = 1000000;
    private static final int MOST_MINUTES = 100000000;
    private static final int MOST_NUMBER = 1000000;
    private static final int MOST_DAY = 100000;
    private static final int MOST_DIFFERENCE = 2000000;
    private static final int MOST_COST = 100;
    private static final int MOST_BASE = 1000;
    private static final int MOST_ROLES = 7;

    private static final int FIELDS = 6;
    private static final int MOST_UNITS = 100;
    private static final int MOST_TELLINGS = 1500;
    private static final int MOST_BYTES = 1200;
    private static final int BYTES_A_FEED = 20;
    private static final int MOST_FORMS = 6;
    private static final int MOST_STATEMENTS = 20;
    private static final int MOST_ASKS = 10;
    private static final int MOST_SESSIONS = 60;
    private static final int MOST_RULES = 16;
    private static final int MOST_SAMPLES = 12;
    private static final int MOST_TABLES = 12;
    private static final int MOST_ROWS = 4;
    private static final int MOST_COLUMNS = 3;
    private static final int MOST_PERSONS = 12;
    private static final int MOST_RELEASES = 12;
    private static final int MOST_LOOKS = 500;

    private static final int BITS = 32;
    private static final int ENDLESS = 2147483647;

    private static final int ASK = 0;
    private static final int LET = 1;
    private static final int MUST = 2;
    private static final int WARN = 3;

    private static final int LESS = 1;
    private static final int EQUAL = 2;
    private static final int GREATER = 4;

    private static final int BY_MUST = 100;
    private static final int BY_WARN = 200;
    private static final int MARK_GREATEST = 1;
    private static final int MARK_DONOR = 2;
    private static final int MAKER = 1;
    private static final int KEEPER = 4;
    private static final int LOOK_WIDTH = 6;

    private final Register register = new Register();
    private final Tape tape = new Tape();
    private final Reader reader = new Reader(tape);
    private final Editor editor = new Editor();
    private final ArrayList<Form> forms = new ArrayList<>();
    private final ArrayList<Session> sessions = new ArrayList<>();
    private final ArrayList<Rec> records = new ArrayList<>();
    private final ArrayList<Sample> samples = new ArrayList<>();
    private final ArrayList<Table> tables = new ArrayList<>();
    private final ArrayList<Release> releases = new ArrayList<>();
    private final Rows persons = new Rows(1, MOST_PERSONS);
    private final Rows looks = new Rows(LOOK_WIDTH, MOST_LOOKS);
    private int minute = 0;

    public CensusOffice() {
    }

    public int tick(int n) throws IllegalArgumentException {
        if (n < 0 || n > MOST_TICKS || minute + n > MOST_MINUTES) {
            throw new IllegalArgumentException("the clock cannot go on by so many minutes");
        }
        minute += n;
        return minute;
    }

    // ---- the register

    public int unit() throws UnsupportedOperationException {
        if (register.units.isFull()) {
            throw new UnsupportedOperationException("no room for a unit");
        }
        return register.addUnit();
    }

    public int tell(int unit, int field, int day, int v) throws IndexOutOfBoundsException,
            IllegalArgumentException, IllegalStateException, UnsupportedOperationException {
        needUnit(unit);
        needField(field);
        if (day < 0 || day > MOST_DAY || v < -MOST_NUMBER || v > MOST_NUMBER) {
            throw new IllegalArgumentException("the day or the number is out of its range");
        }
        needUnmerged(unit);
        if (register.tellings.isFull()) {
            throw new UnsupportedOperationException("no room for a telling");
        }
        return register.addTelling(unit, field, day, v, today());
    }

    public int merge(int unit, int into) throws IndexOutOfBoundsException, IllegalStateException {
        needUnit(unit);
        needUnit(into);
        needUnmerged(unit);
        int common = register.lastKnown(into, today());
        if (common == unit) {
            throw new IllegalStateException("both units have the same last one");
        }
        register.addMerge(unit, into, today());
        return common;
    }

    public int value(int unit, int field, int day, int known)
            throws IndexOutOfBoundsException, IllegalArgumentException {
        needUnit(unit);
        needField(field);
        if (day < 0 || known < 0) {
            throw new IllegalArgumentException("a day is below 0");
        }
        return register.numberOf(unit, field, day, known);
    }

    public int last(int unit) throws IndexOutOfBoundsException {
        needUnit(unit);
        return register.lastKnown(unit, today());
    }

    // ---- forms and sessions

    public int feed(int a, int b, int c, int d, int e) throws UnsupportedOperationException {
        if (tape.length + BYTES_A_FEED > MOST_BYTES) {
            throw new UnsupportedOperationException("no room on the tape");
        }
        tape.put(a);
        tape.put(b);
        tape.put(c);
        tape.put(d);
        tape.put(e);
        return tape.length;
    }

    public int trim(int n) throws IllegalArgumentException {
        if (n < 0 || n > tape.length) {
            throw new IllegalArgumentException("the tape has not so many bytes");
        }
        int had = tape.length;
        tape.length = n;
        return had;
    }

    public int form() throws UnsupportedOperationException {
        if (forms.size() >= MOST_FORMS) {
            throw new UnsupportedOperationException("no room for a form");
        }
        Form made = new Form(tape.length);
        int fault = reader.read(made);
        tape.length = 0;
        if (fault != NONE) {
            return -1 - fault;
        }
        forms.add(made);
        return forms.size() - 1;
    }

    public int statement(int form, int statement, int what)
            throws IndexOutOfBoundsException, IllegalArgumentException {
        Form asked = formAt(form);
        needStatement(asked, statement);
        if (what < 0 || what > 3) {
            throw new IllegalArgumentException("what is 0 .. 3");
        }
        switch (what) {
            case 0:
                return asked.sorts[statement];
            case 1:
                return asked.lows[statement];
            case 2:
                return asked.highs[statement];
            default:
                return asked.costs[statement];
        }
    }

    public int open(int form, int unit)
            throws IndexOutOfBoundsException, IllegalStateException, UnsupportedOperationException {
        Form asked = formAt(form);
        needUnit(unit);
        needUnmerged(unit);
        if (sessions.size() >= MOST_SESSIONS) {
            throw new UnsupportedOperationException("no room for a session");
        }
        Session made = new Session(asked, unit, register.numbersOf(unit, today()));
        made.walk();
        sessions.add(made);
        return sessions.size() - 1;
    }

    public int question(int session) throws IndexOutOfBoundsException {
        return sessionAt(session).asked();
    }

    public int answer(int session, int v)
            throws IndexOutOfBoundsException, IllegalStateException, IllegalArgumentException {
        Session asking = sessionAt(session);
        int asked = asking.asked();
        if (asked == NONE) {
            throw new IllegalStateException("the session is at its end");
        }
        if (v < asking.form.lows[asked] || v > asking.form.highs[asked]) {
            throw new IllegalArgumentException("no answer of this question");
        }
        return asking.take(v);
    }

    public int back(int session) throws IndexOutOfBoundsException, IllegalStateException {
        Session asking = sessionAt(session);
        if (asking.closed) {
            throw new IllegalStateException("the session is closed");
        }
        return asking.goBack();
    }

    public int given(int session, int statement, boolean aside) throws IndexOutOfBoundsException {
        Session asking = sessionAt(session);
        needStatement(asking.form, statement);
        return aside ? asking.aside[statement] : asking.items[statement];
    }

    public int close(int session) throws IndexOutOfBoundsException, IllegalStateException {
        Session asking = sessionAt(session);
        if (asking.closed || asking.asked() != NONE) {
            throw new IllegalStateException("the session is not at its end, or closed");
        }
        asking.closed = true;
        records.add(new Rec(asking));
        return records.size() - 1;
    }

    // ---- records, edits

    public int item(int record, int statement) throws IndexOutOfBoundsException {
        Rec kept = recordAt(record);
        needStatement(kept.form, statement);
        return kept.items[statement];
    }

    public int mark(int record, int statement) throws IndexOutOfBoundsException {
        Rec kept = recordAt(record);
        needStatement(kept.form, statement);
        return kept.marks[statement];
    }

    public int rule(int form, int a, int b, int n)
            throws IndexOutOfBoundsException, IllegalArgumentException, UnsupportedOperationException {
        Form ruled = formAt(form);
        needStatementOrNone(ruled, a);
        needStatementOrNone(ruled, b);
        if (a != NONE && !ruled.isAsk(a) || b != NONE && !ruled.isAsk(b)) {
            throw new IllegalArgumentException("a rule is of asks");
        }
        if (a == b || n < -MOST_DIFFERENCE || n > MOST_DIFFERENCE) {
            throw new IllegalArgumentException("both are the same, or n is out of its range");
        }
        if (ruled.rules.isFull()) {
            throw new UnsupportedOperationException("no room for a rule");
        }
        return ruled.addRule(a, b, n);
    }

    public int cost(int form, int statement, int c)
            throws IndexOutOfBoundsException, IllegalArgumentException {
        Form asked = formAt(form);
        needStatement(asked, statement);
        if (!asked.isAsk(statement) || c < 1 || c > MOST_COST) {
            throw new IllegalArgumentException("no ask, or no cost");
        }
        int was = asked.costs[statement];
        asked.costs[statement] = c;
        return was;
    }

    public int broken(int record, int k) throws IndexOutOfBoundsException {
        Rec kept = recordAt(record);
        if (k < NONE) {
            throw new IndexOutOfBoundsException("k is below NONE");
        }
        return k == NONE ? kept.form.countBroken(kept.items) : kept.form.brokenAt(kept.items, k);
    }

    public int least(int record, boolean bits) throws IndexOutOfBoundsException {
        int set = editor.leastSet(recordAt(record));
        return bits || set == NONE ? set : editor.bestCost;
    }

    public int impute(int record, int way)
            throws IndexOutOfBoundsException, IllegalArgumentException, IllegalStateException {
        Rec kept = recordAt(record);
        if (way < 0 || way > 1) {
            throw new IllegalArgumentException("way is 0 or 1");
        }
        int set = editor.leastSet(kept);
        if (set == NONE) {
            throw new IllegalStateException("there is no set");
        }
        int donor = way == 1 ? editor.donorOf(records, kept, set) : NONE;
        if (donor != NONE) {
            kept.change(set, recordAt(donor).items, MARK_DONOR);
        } else {
            kept.change(set, editor.greatestOf(kept, set), MARK_GREATEST);
        }
        return Integer.bitCount(set);
    }

    // ---- samples

    public int sample(int f, int low, int high, int g, int n, int seed)
            throws IndexOutOfBoundsException, IllegalArgumentException, UnsupportedOperationException {
        needField(f);
        needField(g);
        int framed = register.frame(f, low, high, g, today());
        if (n < 0 || n > framed) {
            throw new IllegalArgumentException("the frame has not so many units");
        }
        if (samples.size() >= MOST_SAMPLES) {
            throw new UnsupportedOperationException("no room for a sample");
        }
        Sample made = new Sample(register.units.size());
        made.draw(register.strata, n, framed, seed);
        samples.add(made);
        return samples.size() - 1;
    }

    public int drawn(int sample, int k) throws IndexOutOfBoundsException {
        Sample made = sampleAt(sample);
        if (k < 0) {
            throw new IndexOutOfBoundsException("k is below 0");
        }
        return made.unitAt(k);
    }

    public int chance(int sample, int unit, boolean below) throws IndexOutOfBoundsException {
        Sample made = sampleAt(sample);
        needUnit(unit);
        return below ? made.chanceBelow(unit) : made.chanceAbove(unit);
    }

    public int overlap(int a, int b) throws IndexOutOfBoundsException {
        Sample one = sampleAt(a);
        Sample other = sampleAt(b);
        int both = 0;
        for (int unit = 0; unit < register.units.size(); unit++) {
            if (one.drew(unit) && other.drew(unit)) {
                both++;
            }
        }
        return both;
    }

    // ---- tables

    public int table(int form, int row, int column, int measure, int sample)
            throws IndexOutOfBoundsException, IllegalArgumentException, UnsupportedOperationException {
        Form counted = formAt(form);
        needStatement(counted, row);
        needStatement(counted, column);
        needStatementOrNone(counted, measure);
        if (sample != NONE) {
            sampleAt(sample);
        }
        if (!counted.isAsk(row) || !counted.isAsk(column) || row == column) {
            throw new IllegalArgumentException("row and column are two asks");
        }
        if (measure != NONE && !counted.isItem(measure)) {
            throw new IllegalArgumentException("the measure is an ask or a let");
        }
        if (counted.span(row) > MOST_ROWS || counted.span(column) > MOST_COLUMNS) {
            throw new IllegalArgumentException("too many numbers");
        }
        if (tables.size() >= MOST_TABLES) {
            throw new UnsupportedOperationException("no room for a table");
        }
        Table made = new Table(counted, row, column, measure);
        for (int k = 0; k < records.size(); k++) {
            Rec kept = records.get(k);
            if (kept.form == counted && isOfSample(kept, sample)) {
                made.count(kept);
            }
        }
        made.settle();
        tables.add(made);
        return tables.size() - 1;
    }

    public int cell(int table, int r, int c, int what)
            throws IndexOutOfBoundsException, IllegalArgumentException {
        Table shown = tableAt(table);
        needSumOrCell(shown, r, c);
        if (what < 0 || what > 3) {
            throw new IllegalArgumentException("what is 0 .. 3");
        }
        switch (what) {
            case 0:
                return shown.sumOf(shown.sums, r, c);
            case 1:
                return shown.sumOf(shown.contributors, r, c);
            case 2:
                return shown.greatestOf(r, c);
            default:
                return shown.sumOf(shown.rounded, r, c);
        }
    }

    public int secrecy(int table, int few, int share, int wide)
            throws IndexOutOfBoundsException, IllegalArgumentException {
        Table shown = tableAt(table);
        if (few < 0 || few > 100 || share < 0 || share > 100 || wide < 0 || wide > MOST_NUMBER) {
            throw new IllegalArgumentException("few, share or wide is out of its range");
        }
        return shown.hide(few, share, wide);
    }

    public int secret(int table, int r, int c) throws IndexOutOfBoundsException {
        Table shown = tableAt(table);
        needCell(shown, r, c);
        int bit = shown.bitOf(r, c);
        if ((shown.secrets & bit) == 0) {
            return 0;
        }
        return (shown.primary & bit) != 0 ? 1 : 2;
    }

    public int interval(int table, int r, int c, boolean up) throws IndexOutOfBoundsException {
        Table shown = tableAt(table);
        needCell(shown, r, c);
        return up ? shown.greatestGuess(r, c) : shown.leastGuess(r, c);
    }

    public int round(int table, int base) throws IndexOutOfBoundsException, IllegalArgumentException {
        Table shown = tableAt(table);
        if (base < 1 || base > MOST_BASE) {
            throw new IllegalArgumentException("the base is 1 .. 1000");
        }
        return shown.roundTo(base);
    }

    // ---- releases

    public int person(int roles) throws IllegalArgumentException, UnsupportedOperationException {
        if (roles < 0 || roles > MOST_ROLES) {
            throw new IllegalArgumentException("roles are 0 .. 7");
        }
        if (persons.isFull()) {
            throw new UnsupportedOperationException("no room for a person");
        }
        int made = persons.add();
        persons.put(made, 0, roles);
        return made;
    }

    public int release(int person, int table, int minute) throws IndexOutOfBoundsException,
            IllegalStateException, IllegalArgumentException, UnsupportedOperationException {
        needPerson(person);
        Table shown = tableAt(table);
        if ((persons.at(person, 0) & MAKER) == 0) {
            throw new IllegalStateException("the person is no maker");
        }
        if (minute < this.minute) {
            throw new IllegalArgumentException("the minute is over");
        }
        if (releases.size() >= MOST_RELEASES) {
            throw new UnsupportedOperationException("no room for a release");
        }
        releases.add(new Release(shown, person, minute));
        return releases.size() - 1;
    }

    public int look(int person, int release, int r, int c)
            throws IndexOutOfBoundsException, UnsupportedOperationException {
        needPerson(person);
        Release shown = releaseAt(release);
        needSumOrCell(shown.table, r, c);
        if (looks.isFull()) {
            throw new UnsupportedOperationException("no room for a look");
        }
        int seen = shown.seenBy(person, persons.at(person, 0), minute, r, c);
        int made = looks.add();
        looks.put(made, 0, person);
        looks.put(made, 1, release);
        looks.put(made, 2, r);
        looks.put(made, 3, c);
        looks.put(made, 4, seen);
        looks.put(made, 5, minute);
        return seen;
    }

    public int looked(int k, int what) throws IndexOutOfBoundsException, IllegalArgumentException {
        needIndex(k, looks.size());
        if (what < 0 || what >= LOOK_WIDTH) {
            throw new IllegalArgumentException("what is 0 .. 5");
        }
        return looks.at(k, what);
    }

    public int told(int what) throws IllegalArgumentException {
        switch (what) {
            case 0:
                return register.units.size();
            case 1:
                return register.tellings.size();
            case 2:
                return register.merges;
            case 3:
                return forms.size();
            case 4:
                return sessions.size();
            case 5:
                return sessions.size() - records.size();
            case 6:
                return records.size();
            case 7:
                return samples.size();
            case 8:
                return tables.size();
            case 9:
                return persons.size();
            case 10:
                return releases.size();
            case 11:
                return looks.size();
            case 12:
                return tape.length;
            case 13:
                return minute;
            case 14:
                return today();
            default:
                throw new IllegalArgumentException("what is 0 .. 14");
        }
    }

    // ---- what the calls have in common

    private int today() {
        return minute / MINUTES_A_DAY;
    }

    private static void needIndex(int k, int count) {
        if (k < 0 || k >= count) {
            throw new IndexOutOfBoundsException("there is no such thing of those that the call names");
        }
    }

    private void needUnit(int unit) {
        needIndex(unit, register.units.size());
    }

    private void needField(int field) {
        needIndex(field, FIELDS);
    }

    private void needUnmerged(int unit) {
        if (register.wentAway(unit)) {
            throw new IllegalStateException("the unit went into another one");
        }
    }

    private void needStatement(Form form, int statement) {
        needIndex(statement, form.count);
    }

    private void needStatementOrNone(Form form, int statement) {
        if (statement != NONE) {
            needIndex(statement, form.count);
        }
    }

    private void needPerson(int person) {
        needIndex(person, persons.size());
    }

    private void needCell(Table table, int r, int c) {
        needIndex(r, table.rows);
        needIndex(c, table.columns);
    }

    private void needSumOrCell(Table table, int r, int c) {
        needIndex(r, table.rows + 1);
        needIndex(c, table.columns + 1);
    }

    private Form formAt(int form) {
        needIndex(form, forms.size());
        return forms.get(form);
    }

    private Session sessionAt(int session) {
        needIndex(session, sessions.size());
        return sessions.get(session);
    }

    private Rec recordAt(int record) {
        needIndex(record, records.size());
        return records.get(record);
    }

    private Sample sampleAt(int sample) {
        needIndex(sample, samples.size());
        return samples.get(sample);
    }

    private Table tableAt(int table) {
        needIndex(table, tables.size());
        return tables.get(table);
    }

    private Release releaseAt(int release) {
        needIndex(release, releases.size());
        return releases.get(release);
    }

    private boolean isOfSample(Rec record, int sample) {
        return sample == NONE || sampleAt(sample).drew(register.lastKnown(record.unit, today()));
    }

    private static boolean hasBit(int bits, int k) {
        return k >= 0 && k < BITS && (bits >>> k & 1) != 0;
    }

    /** Rows of numbers, all of one width, up to a limit; what is no place of theirs is ABSENT. */
    private static final class Rows {
        private static final int FIRST_ROOM = 8;

        private final int width;
        private final int limit;
        private int[] numbers;
        private int count = 0;

        Rows(int width, int limit) {
            this.width = width;
            this.limit = limit;
            this.numbers = new int[Math.max(0, width) * FIRST_ROOM];
        }

        int size() {
            return count;
        }

        boolean isFull() {
            return count >= limit;
        }

        boolean has(int row) {
            return row >= 0 && row < count;
        }

        int at(int row, int column) {
            if (!has(row) || column < 0 || column >= width) {
                return ABSENT;
            }
            return numbers[row * width + column];
        }

        void put(int row, int column, int number) {
            if (has(row) && column >= 0 && column < width) {
                numbers[row * width + column] = number;
            }
        }

        int add() {
            if ((count + 1) * width > numbers.length) {
                numbers = Arrays.copyOf(numbers, numbers.length * 2);
            }
            count++;
            return count - 1;
        }
    }

    /** Units, tellings and merges, each with the day on which it was told. */
    private static final class Register {
        private static final int INTO = 0;
        private static final int INTO_TOLD = 1;
        private static final int UNIT = 0;
        private static final int FIELD = 1;
        private static final int FROM = 2;
        private static final int NUMBER = 3;
        private static final int TOLD = 4;

        private final Rows units = new Rows(2, MOST_UNITS);
        private final Rows tellings = new Rows(5, MOST_TELLINGS);
        private final int[] newest = new int[MOST_UNITS];
        private final int[] numbers = new int[MOST_UNITS];
        private final int[] strata = new int[MOST_UNITS];
        private int merges = 0;

        int addUnit() {
            int made = units.add();
            units.put(made, INTO, NONE);
            return made;
        }

        int addTelling(int unit, int field, int from, int number, int told) {
            int made = tellings.add();
            tellings.put(made, UNIT, unit);
            tellings.put(made, FIELD, field);
            tellings.put(made, FROM, from);
            tellings.put(made, NUMBER, number);
            tellings.put(made, TOLD, told);
            return tellings.size();
        }

        void addMerge(int unit, int into, int told) {
            units.put(unit, INTO, into);
            units.put(unit, INTO_TOLD, told);
            merges++;
        }

        boolean wentAway(int unit) {
            return units.at(unit, INTO) != NONE;
        }

        int lastKnown(int unit, int known) {
            int at = unit;
            for (int step = 0; step < MOST_UNITS; step++) {
                int into = units.at(at, INTO);
                if (into < 0 || units.at(at, INTO_TOLD) > known) {
                    return at;
                }
                at = into;
            }
            return at;
        }

        int numberOf(int unit, int field, int day, int known) {
            findNumbers(field, day, known);
            int wanted = lastKnown(unit, known);
            return wanted < 0 || wanted >= MOST_UNITS ? ABSENT : numbers[wanted];
        }

        int[] numbersOf(int unit, int day) {
            int[] found = new int[FIELDS];
            for (int field = 0; field < FIELDS; field++) {
                found[field] = numberOf(unit, field, day, day);
            }
            return found;
        }

        /** Leaves each unit's stratum in strata (ABSENT: not in the frame): how many have one. */
        int frame(int f, int low, int high, int g, int day) {
            Arrays.fill(strata, ABSENT);
            findNumbers(f, day, day);
            for (int unit = 0; unit < units.size() && unit < MOST_UNITS; unit++) {
                if (!wentAway(unit) && numbers[unit] != ABSENT
                        && numbers[unit] >= low && numbers[unit] <= high) {
                    strata[unit] = 0;
                }
            }
            findNumbers(g, day, day);
            int framed = 0;
            for (int unit = 0; unit < MOST_UNITS; unit++) {
                if (strata[unit] != ABSENT) {
                    strata[unit] = numbers[unit];
                    framed += strata[unit] == ABSENT ? 0 : 1;
                }
            }
            return framed;
        }

        /** One way through the tellings finds the number of each unit that is the last of some. */
        private void findNumbers(int field, int day, int known) {
            Arrays.fill(newest, NONE);
            Arrays.fill(numbers, ABSENT);
            for (int k = 0; k < tellings.size(); k++) {
                int from = tellings.at(k, FROM);
                if (tellings.at(k, FIELD) != field || from > day || tellings.at(k, TOLD) > known) {
                    continue;
                }
                int unit = lastKnown(tellings.at(k, UNIT), known);
                if (unit >= 0 && unit < MOST_UNITS && from >= newest[unit]) {
                    newest[unit] = from;
                    numbers[unit] = tellings.at(k, NUMBER);
                }
            }
        }
    }

    /** The tape's bytes, and the token at which a reading of them stands. */
    private static final class Tape {
        private static final int WORD = 0;
        private static final int NUMBER = 1;
        private static final int RELATION = 2;
        private static final int PLUS = 3;
        private static final int MINUS = 4;
        private static final int SEMICOLON = 5;
        private static final int END = 6;
        private static final int UNKNOWN = 7;
        private static final int MOST_LETTERS = 8;
        private static final int MOST_DIGITS = 6;

        private final byte[] bytes = new byte[MOST_BYTES];
        private int length = 0;
        private int next = 0;
        private int kind = END;
        private int place = 0;
        private int number = 0;
        private long word = 0;

        void put(int four) {
            for (int shift = 24; shift >= 0 && length < MOST_BYTES; shift -= 8) {
                bytes[length] = (byte) (four >> shift);
                length++;
            }
        }

        void rewind() {
            next = 0;
            advance();
        }

        boolean isAtWord(long wanted) {
            return kind == WORD && word == wanted;
        }

        void advance() {
            while (next < length && isBlank(bytes[next])) {
                next++;
            }
            place = next;
            kind = END;
            if (next >= length) {
                return;
            }
            int first = bytes[next];
            if (first >= 'a' && first <= 'z') {
                takeWord();
            } else if (first >= '0' && first <= '9') {
                takeNumber();
            } else if (first >= '<' && first <= '>') {
                takeRelation(first);
            } else {
                takeSign(first);
            }
        }

        private boolean isBlank(int letter) {
            return letter == 9 || letter == 10 || letter == 13 || letter == 32;
        }

        /** Packs the letters, eight bits each, so that words are told apart by one number. */
        private void takeWord() {
            word = 0;
            while (next < length && bytes[next] >= 'a' && bytes[next] <= 'z') {
                word = word << 8 | bytes[next];
                next++;
            }
            kind = next - place > MOST_LETTERS ? UNKNOWN : WORD;
        }

        private void takeNumber() {
            number = 0;
            while (next < length && bytes[next] >= '0' && bytes[next] <= '9') {
                number = number * 10 + bytes[next] - '0';
                next++;
            }
            kind = next - place > MOST_DIGITS ? UNKNOWN : NUMBER;
        }

        private void takeSign(int first) {
            next++;
            switch (first) {
                case ';':
                    kind = SEMICOLON;
                    break;
                case '+':
                    kind = PLUS;
                    break;
                case '-':
                    kind = MINUS;
                    break;
                default:
                    kind = UNKNOWN;
            }
        }

        /** A relation is the set of outcomes with which it holds; number has it as bits. */
        private void takeRelation(int first) {
            next++;
            kind = RELATION;
            number = first == '<' ? LESS : first == '=' ? EQUAL : GREATER;
            int second = next < length ? bytes[next] : 0;
            if (second == '=' && first != '=') {
                number |= EQUAL;
                next++;
            } else if (second == '>' && first == '<') {
                number |= GREATER;
                next++;
            }
        }
    }

    /** Reads the tape into a form by its grammar; a method answers false behind a fault. */
    private static final class Reader {
        private static final long WORD_ASK = 'a' << 16 | 's' << 8 | 'k';
        private static final long WORD_LET = 'l' << 16 | 'e' << 8 | 't';
        private static final long WORD_MUST = 'm' << 24 | 'u' << 16 | 's' << 8 | 't';
        private static final long WORD_WARN = 'w' << 24 | 'a' << 16 | 'r' << 8 | 'n';
        private static final long WORD_IF = 'i' << 8 | 'f';
        private static final long WORD_AND = 'a' << 16 | 'n' << 8 | 'd';
        private static final long WORD_OR = 'o' << 8 | 'r';
        private static final long WORD_REG = 'r' << 16 | 'e' << 8 | 'g';

        private final Tape tape;
        private Form form = new Form(0);
        private long name = 0;
        private int bound = 0;
        private int fault = NONE;

        Reader(Tape tape) {
            this.tape = tape;
        }

        /** The place of the fault, or NONE. */
        int read(Form into) {
            form = into;
            tape.rewind();
            for (int s = 0; s < MOST_STATEMENTS; s++) {
                if (!readStatement()) {
                    return fault;
                }
                if (tape.kind == Tape.END) {
                    return NONE;
                }
            }
            return tape.place;
        }

        private boolean readStatement() {
            int sort = sortHere();
            if (sort == NONE || sort == ASK && form.asks >= MOST_ASKS) {
                return failAt(tape.place);
            }
            tape.advance();
            form.begin(sort);
            if (sort <= LET && !readName()) {
                return false;
            }
            if (sort == ASK && !readBounds() || sort == LET && !readExpression()) {
                return false;
            }
            form.split();
            boolean conditional = sort >= MUST;
            if (!conditional && tape.isAtWord(WORD_IF)) {
                conditional = true;
                tape.advance();
            }
            if (conditional && !readCondition()) {
                return false;
            }
            if (tape.kind != Tape.SEMICOLON) {
                return failAt(tape.place);
            }
            tape.advance();
            form.finish(sort <= LET ? name : 0);
            return true;
        }

        private int sortHere() {
            if (tape.isAtWord(WORD_ASK)) {
                return ASK;
            }
            if (tape.isAtWord(WORD_LET)) {
                return LET;
            }
            if (tape.isAtWord(WORD_MUST)) {
                return MUST;
            }
            return tape.isAtWord(WORD_WARN) ? WARN : NONE;
        }

        private boolean readName() {
            if (tape.kind != Tape.WORD || isKept(tape.word) || form.named(tape.word) != NONE) {
                return failAt(tape.place);
            }
            name = tape.word;
            tape.advance();
            return true;
        }

        private boolean isKept(long word) {
            return word == WORD_ASK || word == WORD_LET || word == WORD_MUST || word == WORD_WARN
                    || word == WORD_IF || word == WORD_AND || word == WORD_OR || word == WORD_REG;
        }

        private boolean readBounds() {
            if (!readBound()) {
                return false;
            }
            int low = bound;
            int place = tape.place;
            if (!readBound()) {
                return false;
            }
            if (bound < low) {
                return failAt(place);
            }
            form.bind(low, bound);
            return true;
        }

        private boolean readBound() {
            int sign = 1;
            if (tape.kind == Tape.MINUS) {
                sign = -1;
                tape.advance();
            }
            if (tape.kind != Tape.NUMBER) {
                return failAt(tape.place);
            }
            bound = sign * tape.number;
            tape.advance();
            return true;
        }

        private boolean readCondition() {
            for (int k = 0; k < MOST_BYTES; k++) {
                if (!readExpression()) {
                    return false;
                }
                if (tape.kind != Tape.RELATION) {
                    return failAt(tape.place);
                }
                form.write(Form.COMPARE, tape.number);
                tape.advance();
                if (!readExpression()) {
                    return false;
                }
                boolean goesOn = tape.isAtWord(WORD_AND);
                form.write(goesOn ? Form.AND : Form.OR, 0);
                if (!goesOn && !tape.isAtWord(WORD_OR)) {
                    return true;
                }
                tape.advance();
            }
            return failAt(tape.place);
        }

        private boolean readExpression() {
            int sign = 1;
            for (int k = 0; k < MOST_BYTES; k++) {
                if (!readTerm(sign)) {
                    return false;
                }
                if (tape.kind != Tape.PLUS && tape.kind != Tape.MINUS) {
                    return true;
                }
                sign = tape.kind == Tape.PLUS ? 1 : -1;
                tape.advance();
            }
            return failAt(tape.place);
        }

        private boolean readTerm(int sign) {
            int sort = Form.ITEM;
            int amount = tape.kind == Tape.WORD ? form.named(tape.word) : NONE;
            if (tape.kind == Tape.NUMBER) {
                sort = Form.NUMBER;
                amount = sign * tape.number;
            } else if (tape.kind == Tape.MINUS) {
                sort = Form.NUMBER;
                tape.advance();
                amount = tape.kind == Tape.NUMBER ? -sign * tape.number : NONE;
            } else if (tape.isAtWord(WORD_REG)) {
                sort = Form.REG;
                tape.advance();
                amount = tape.kind == Tape.NUMBER && tape.number < FIELDS ? tape.number : NONE;
            }
            boolean stands = sort == Form.NUMBER ? tape.kind == Tape.NUMBER : amount != NONE;
            if (!stands) {
                return failAt(tape.place);
            }
            form.write(sort == Form.NUMBER || sign > 0 ? sort : sort + Form.TAKEN, amount);
            tape.advance();
            return true;
        }

        private boolean failAt(int place) {
            fault = place;
            return false;
        }
    }

    /**
     * A form: its statements, their conds and exprs as steps in the order of the text, its rules.
     * The steps of statement s are those from starts[s] to starts[s + 1]; the cond begins at splits[s].
     */
    private static final class Form {
        private static final int NUMBER = 0;
        private static final int ITEM = 1;
        private static final int REG = 2;
        private static final int TAKEN = 2;
        private static final int ITEM_TAKEN = ITEM + TAKEN;
        private static final int REG_TAKEN = REG + TAKEN;
        private static final int COMPARE = 5;
        private static final int AND = 6;
        private static final int OR = 7;
        private static final int HOLDS = 1;
        private static final int LACKS = 2;
        private static final long FAR = 1L << 40;

        private final int[] steps;
        private final int[] amounts;
        private final int[] sorts = new int[MOST_STATEMENTS];
        private final int[] lows = new int[MOST_STATEMENTS];
        private final int[] highs = new int[MOST_STATEMENTS];
        private final int[] costs = new int[MOST_STATEMENTS];
        private final long[] names = new long[MOST_STATEMENTS];
        private final int[] starts = new int[MOST_STATEMENTS + 1];
        private final int[] splits = new int[MOST_STATEMENTS];
        private final Rows rules = new Rows(3, MOST_RULES);
        private int written = 0;
        private int count = 0;
        private int asks = 0;

        Form(int room) {
            this.steps = new int[Math.max(0, room)];
            this.amounts = new int[Math.max(0, room)];
        }

        void begin(int sort) {
            if (count < MOST_STATEMENTS) {
                sorts[count] = sort;
            }
        }

        void bind(int low, int high) {
            if (count < MOST_STATEMENTS) {
                lows[count] = low;
                highs[count] = high;
                costs[count] = 1;
                asks++;
            }
        }

        void split() {
            if (count < MOST_STATEMENTS) {
                splits[count] = written;
            }
        }

        void finish(long name) {
            if (count < MOST_STATEMENTS) {
                names[count] = name;
                count++;
                starts[count] = written;
            }
        }

        void write(int step, int amount) {
            if (written < steps.length) {
                steps[written] = step;
                amounts[written] = amount;
                written++;
            }
        }

        int named(long name) {
            for (int s = 0; s < count; s++) {
                if (names[s] == name) {
                    return s;
                }
            }
            return NONE;
        }

        boolean has(int s) {
            return s >= 0 && s < count;
        }

        boolean isAsk(int s) {
            return has(s) && sorts[s] == ASK;
        }

        boolean isItem(int s) {
            return has(s) && sorts[s] <= LET;
        }

        int costOf(int s) {
            return has(s) ? costs[s] : 0;
        }

        int span(int s) {
            return has(s) ? highs[s] - lows[s] + 1 : 0;
        }

        boolean applies(int s, int[] items, int[] regs) {
            return splits[s] == starts[s + 1]
                    || (judge(splits[s], starts[s + 1], items, regs) & HOLDS) != 0;
        }

        boolean isBroken(int s, int[] items, int[] regs) {
            return judge(splits[s], starts[s + 1], items, regs) == 0;
        }

        int worth(int s, int[] items, int[] regs) {
            if (!applies(s, items, regs)) {
                return ABSENT;
            }
            long sum = 0;
            for (int k = starts[s]; k < splits[s]; k++) {
                sum += term(k, items, regs);
            }
            return closed(sum);
        }

        /** HOLDS, and LACKS if something is ABSENT: all of a cond is looked at for that. */
        private int judge(int from, int to, int[] items, int[] regs) {
            int result = 0;
            int relation = 0;
            boolean row = true;
            long left = 0;
            long sum = 0;
            for (int k = from; k < to && k < steps.length; k++) {
                if (steps[k] == COMPARE) {
                    left = sum;
                    sum = 0;
                    relation = amounts[k];
                } else if (steps[k] == AND || steps[k] == OR) {
                    int outcome = outcome(closed(left), closed(sum));
                    sum = 0;
                    result |= outcome == 0 ? LACKS : 0;
                    row = row && (relation & outcome) != 0;
                    if (steps[k] == OR) {
                        result |= row ? HOLDS : 0;
                        row = true;
                    }
                } else {
                    sum += term(k, items, regs);
                }
            }
            return result;
        }

        private int outcome(int left, int right) {
            if (left == ABSENT || right == ABSENT) {
                return 0;
            }
            if (left == right) {
                return EQUAL;
            }
            return left < right ? LESS : GREATER;
        }

        /** Something ABSENT is so far that no sum of a text's length comes back into the range. */
        private long term(int k, int[] items, int[] regs) {
            int amount = amounts[k];
            if (steps[k] == NUMBER) {
                return amount;
            }
            int[] from = steps[k] == ITEM || steps[k] == ITEM_TAKEN ? items : regs;
            if (amount < 0 || amount >= from.length || from[amount] == ABSENT) {
                return FAR;
            }
            return steps[k] == ITEM_TAKEN || steps[k] == REG_TAKEN ? -from[amount] : from[amount];
        }

        private int closed(long sum) {
            return sum < -MOST_NUMBER || sum > MOST_NUMBER ? ABSENT : (int) sum;
        }

        int addRule(int a, int b, int n) {
            int made = rules.add();
            rules.put(made, 0, a);
            rules.put(made, 1, b);
            rules.put(made, 2, n);
            return made;
        }

        /** By how much the first item of a rule is too great; 0 or less: the rule is kept. */
        int excess(int rule, int[] items) {
            int first = ruled(rules.at(rule, 0), items);
            int second = ruled(rules.at(rule, 1), items);
            return first == ABSENT || second == ABSENT ? 0 : first - second - rules.at(rule, 2);
        }

        private int ruled(int s, int[] items) {
            if (s == NONE) {
                return 0;
            }
            return s >= 0 && s < items.length ? items[s] : ABSENT;
        }

        int countBroken(int[] items) {
            int broken = 0;
            for (int k = 0; k < rules.size(); k++) {
                broken += excess(k, items) > 0 ? 1 : 0;
            }
            return broken;
        }

        int brokenAt(int[] items, int wanted) {
            int ahead = 0;
            for (int k = 0; k < rules.size(); k++) {
                if (excess(k, items) > 0) {
                    if (ahead == wanted) {
                        return k;
                    }
                    ahead++;
                }
            }
            return NONE;
        }
    }

    /** A unit that is asked a form; a number that is not GIVEN, or not ASIDE, is ABSENT. */
    private static final class Session {
        private final Form form;
        private final int unit;
        private final int[] regs;
        private final int[] items;
        private final int[] given;
        private final int[] aside;
        private int at = 0;
        private int brokenMusts = 0;
        private int brokenWarns = 0;
        private int notes = 0;
        private int notedQuestion = NONE;
        private int notedNumber = 0;
        private boolean closed = false;

        Session(Form form, int unit, int[] regs) {
            this.form = form;
            this.unit = unit;
            this.regs = regs;
            this.items = new int[MOST_STATEMENTS];
            this.given = new int[MOST_STATEMENTS];
            this.aside = new int[MOST_STATEMENTS];
            Arrays.fill(items, ABSENT);
            Arrays.fill(given, ABSENT);
            Arrays.fill(aside, ABSENT);
        }

        int asked() {
            return form.has(at) ? at : NONE;
        }

        void walk() {
            Arrays.fill(items, ABSENT);
            brokenMusts = 0;
            brokenWarns = 0;
            for (int s = 0; s < form.count; s++) {
                int sort = form.sorts[s];
                if (sort == LET) {
                    items[s] = form.worth(s, items, regs);
                } else if (sort == ASK && form.applies(s, items, regs)) {
                    items[s] = given[s];
                    if (given[s] == ABSENT) {
                        at = s;
                        return;
                    }
                } else if (sort == MUST && form.isBroken(s, items, regs)) {
                    brokenMusts |= 1 << s;
                } else if (sort == WARN && form.isBroken(s, items, regs)) {
                    brokenWarns |= 1 << s;
                }
            }
            at = form.count;
        }

        /** Takes a number that the question may have: 0, or by which statement it is refused. */
        int take(int v) {
            int asked = asked();
            if (asked == NONE) {
                return 0;
            }
            if (asked != notedQuestion || v != notedNumber) {
                notes = 0;
            }
            notedQuestion = asked;
            notedNumber = v;
            given[asked] = v;
            walk();
            int refusal = refusalBehind(asked);
            if (refusal != 0) {
                given[asked] = ABSENT;
                walk();
                return refusal;
            }
            notes = 0;
            aside[asked] = ABSENT;
            takeAsides();
            return 0;
        }

        int goBack() {
            for (int s = form.count - 1; s >= 0; s--) {
                if (given[s] != ABSENT) {
                    aside[s] = given[s];
                    given[s] = ABSENT;
                    notes = 0;
                    walk();
                    return asked();
                }
            }
            return NONE;
        }

        private int refusalBehind(int s) {
            int musts = brokenMusts & behind(s);
            if (musts != 0) {
                return BY_MUST + Integer.numberOfTrailingZeros(musts);
            }
            int warns = brokenWarns & behind(s) & ~notes;
            if (warns == 0) {
                return 0;
            }
            int first = Integer.numberOfTrailingZeros(warns);
            notes |= 1 << first;
            return BY_WARN + first;
        }

        private int behind(int s) {
            return -2 << s;
        }

        private void takeAsides() {
            for (int step = 0; step < form.count; step++) {
                int asked = asked();
                if (asked == NONE || aside[asked] == ABSENT) {
                    return;
                }
                given[asked] = aside[asked];
                walk();
                if (((brokenMusts | brokenWarns) & behind(asked)) != 0) {
                    given[asked] = ABSENT;
                    walk();
                    return;
                }
                aside[asked] = ABSENT;
            }
        }
    }

    /** What a closed session leaves. */
    private static final class Rec {
        private final Form form;
        private final int unit;
        private final int[] regs;
        private final int[] items;
        private final int[] marks = new int[MOST_STATEMENTS];

        Rec(Session session) {
            this.form = session.form;
            this.unit = session.unit;
            this.regs = session.regs;
            this.items = Arrays.copyOf(session.items, MOST_STATEMENTS);
        }

        boolean breaksNone() {
            return form.countBroken(items) == 0;
        }

        void change(int set, int[] numbers, int mark) {
            for (int s = 0; s < form.count; s++) {
                if (hasBit(set, s) && s < numbers.length) {
                    items[s] = numbers[s];
                    marks[s] = mark;
                }
            }
            for (int s = 0; s < form.count; s++) {
                if (form.sorts[s] == LET) {
                    items[s] = form.worth(s, items, regs);
                }
            }
        }
    }

    /** Finds what to change in a record that breaks rules, and into what. */
    private static final class Editor {
        private static final int SETTLED = 0;
        private static final int LOWERED = 1;
        private static final int IMPOSSIBLE = 2;

        private final int[] trial = new int[MOST_STATEMENTS];
        private int bestSet = NONE;
        private int bestCost = ENDLESS;

        int leastSet(Rec record) {
            int free = 0;
            for (int s = 0; s < record.form.count; s++) {
                if (record.form.isAsk(s) && record.items[s] != ABSENT) {
                    free |= 1 << s;
                }
            }
            bestSet = NONE;
            bestCost = ENDLESS;
            if (fits(record, free)) {
                choose(record, 0, free, 0);
            }
            return bestSet;
        }

        /**
         * The set fits with all the open asks, of which there is one less each time. The highest come
         * first and are left out first, so of sets with the same cost the one with the least bits is
         * met first. What does not fit with all that may still come does not fit with less.
         */
        private void choose(Rec record, int set, int open, int cost) {
            if (cost >= bestCost) {
                return;
            }
            if (open == 0) {
                bestSet = set;
                bestCost = cost;
                return;
            }
            int highest = Integer.highestOneBit(open);
            int rest = open & ~highest;
            if (fits(record, set | rest)) {
                choose(record, set, rest, cost);
            }
            int more = record.form.costOf(Integer.numberOfTrailingZeros(highest));
            choose(record, set | highest, rest, cost + more);
        }

        /**
         * Leaves in trial the greatest numbers with which no rule is broken. They begin at the
         * asks' greatest ones and sink only as far as a rule demands; where they have not settled
         * when each has had its turn once behind all others, they would sink without an end.
         */
        private boolean fits(Rec record, int set) {
            for (int s = 0; s < record.form.count; s++) {
                trial[s] = hasBit(set, s) ? record.form.highs[s] : record.items[s];
            }
            for (int round = 0; round < MOST_ASKS + 2; round++) {
                int outcome = lower(record.form, set);
                if (outcome != LOWERED) {
                    return outcome == SETTLED;
                }
            }
            return false;
        }

        private int lower(Form form, int set) {
            int outcome = SETTLED;
            for (int k = 0; k < form.rules.size(); k++) {
                int excess = form.excess(k, trial);
                int a = form.rules.at(k, 0);
                if (excess > 0) {
                    if (!hasBit(set, a) || trial[a] - excess < form.lows[a]) {
                        return IMPOSSIBLE;
                    }
                    trial[a] -= excess;
                    outcome = LOWERED;
                }
            }
            return outcome;
        }

        int[] greatestOf(Rec record, int set) {
            fits(record, set);
            return trial;
        }

        int donorOf(ArrayList<Rec> records, Rec record, int set) {
            int best = NONE;
            int bestDistance = ENDLESS;
            for (int k = 0; k < records.size(); k++) {
                Rec other = records.get(k);
                if (other != record && other.form == record.form && canGive(other, record, set)) {
                    int distance = distance(other, record, set);
                    if (distance < bestDistance) {
                        best = k;
                        bestDistance = distance;
                    }
                }
            }
            return best;
        }

        private boolean canGive(Rec donor, Rec record, int set) {
            for (int s = 0; s < record.form.count; s++) {
                trial[s] = hasBit(set, s) ? donor.items[s] : record.items[s];
                if (hasBit(set, s) && donor.items[s] == ABSENT) {
                    return false;
                }
            }
            return donor.breaksNone() && record.form.countBroken(trial) == 0;
        }

        private int distance(Rec donor, Rec record, int set) {
            int sum = 0;
            for (int s = 0; s < record.form.count; s++) {
                if (record.form.isAsk(s) && !hasBit(set, s)
                        && donor.items[s] != ABSENT && record.items[s] != ABSENT) {
                    sum += Math.abs(donor.items[s] - record.items[s]);
                }
            }
            return sum;
        }
    }

    /** What was drawn, and each unit's chance; units that came later have none. */
    private static final class Sample {
        private final int[] above;
        private final int[] below;
        private final boolean[] drawn;

        Sample(int units) {
            this.above = new int[Math.max(0, units)];
            this.below = new int[Math.max(0, units)];
            this.drawn = new boolean[Math.max(0, units)];
        }

        boolean drew(int unit) {
            return unit >= 0 && unit < drawn.length && drawn[unit];
        }

        int chanceAbove(int unit) {
            return unit >= 0 && unit < above.length ? above[unit] : 0;
        }

        int chanceBelow(int unit) {
            return unit >= 0 && unit < below.length ? below[unit] : 1;
        }

        int unitAt(int k) {
            int ahead = 0;
            for (int unit = 0; unit < drawn.length; unit++) {
                if (drawn[unit]) {
                    if (ahead == k) {
                        return unit;
                    }
                    ahead++;
                }
            }
            return NONE;
        }

        /** While it draws, below is the size of a unit's stratum, and above what that got. */
        void draw(int[] strata, int n, int framed, int seed) {
            allot(strata, leaders(strata), n, framed);
            for (int unit = 0; unit < drawn.length; unit++) {
                drawn[unit] = above[unit] > 0 && rank(strata, unit, seed) < above[unit];
            }
            for (int unit = 0; unit < drawn.length; unit++) {
                int divisor = commonDivisor(above[unit], below[unit]);
                if (divisor > 0) {
                    above[unit] /= divisor;
                    below[unit] /= divisor;
                } else {
                    below[unit] = 1;
                }
            }
        }

        /** Sizes the strata; the first unit of each, which stands for it where strata are met once. */
        private int[] leaders(int[] strata) {
            int[] found = new int[below.length];
            int count = 0;
            for (int unit = 0; unit < below.length; unit++) {
                boolean leads = strata[unit] != ABSENT;
                for (int other = 0; other < below.length && strata[unit] != ABSENT; other++) {
                    if (strata[other] == strata[unit]) {
                        below[unit]++;
                        leads = leads && other >= unit;
                    }
                }
                if (leads) {
                    found[count] = unit;
                    count++;
                }
            }
            return Arrays.copyOf(found, count);
        }

        private void allot(int[] strata, int[] leaders, int n, int framed) {
            if (framed <= 0) {
                return;
            }
            int left = n;
            for (int leader : leaders) {
                left -= n * below[leader] / framed;
            }
            for (int unit = 0; unit < above.length; unit++) {
                int rest = n * below[unit] % framed;
                int ahead = 0;
                for (int leader : leaders) {
                    int more = n * below[leader] % framed - rest;
                    ahead += more > 0 || more == 0 && strata[leader] < strata[unit] ? 1 : 0;
                }
                if (strata[unit] != ABSENT) {
                    above[unit] = n * below[unit] / framed + (ahead < left ? 1 : 0);
                }
            }
        }

        private int rank(int[] strata, int unit, int seed) {
            int rank = 0;
            int key = key(seed, unit);
            for (int other = 0; other < drawn.length; other++) {
                if (strata[other] == strata[unit]) {
                    int otherKey = key(seed, other);
                    rank += otherKey < key || otherKey == key && other < unit ? 1 : 0;
                }
            }
            return rank;
        }

        private int key(int seed, int unit) {
            int h = seed ^ unit * 0x9E3779B9;
            h = h * 0x85EBCA6B;
            h = h ^ h >>> 13;
            h = h * 0xC2B2AE35;
            return h ^ h >>> 16;
        }

        private int commonDivisor(int a, int b) {
            int great = Math.max(a, b);
            int small = Math.min(a, b);
            for (int step = 0; step < MOST_UNITS && small > 0; step++) {
                int rest = great % small;
                great = small;
                small = rest;
            }
            return great;
        }
    }

    /** Cells by rows, then columns, with what was made of them: secret ones, rounded numbers. */
    private static final class Table {
        private final Form form;
        private final int row;
        private final int column;
        private final int measure;
        private final int rows;
        private final int columns;
        private final int cells;
        private final int[] sums;
        private final int[] contributors;
        private final int[] greatest;
        private final int[] rounded;
        private final int[] parts = new int[MOST_ROWS << MOST_COLUMNS];
        private int primary = 0;
        private int secrets = 0;
        private int bestSet = NONE;
        private int bestCost = 0;

        Table(Form form, int row, int column, int measure) {
            this.form = form;
            this.row = row;
            this.column = column;
            this.measure = measure;
            this.rows = Math.max(0, Math.min(MOST_ROWS, form.span(row)));
            this.columns = Math.max(0, Math.min(MOST_COLUMNS, form.span(column)));
            this.cells = rows * columns;
            this.sums = new int[cells];
            this.contributors = new int[cells];
            this.greatest = new int[cells];
            this.rounded = new int[cells];
        }

        void count(Rec record) {
            int r = record.items[row];
            int c = record.items[column];
            int size = measure == NONE ? 1 : record.items[measure];
            if (r == ABSENT || c == ABSENT || size < 0 || !record.breaksNone()) {
                return;
            }
            int k = (r - form.lows[row]) * columns + c - form.lows[column];
            if (k >= 0 && k < cells) {
                sums[k] += size;
                contributors[k]++;
                greatest[k] = Math.max(greatest[k], size);
            }
        }

        /** Behind the last record; parts has of each row the sums of each set of its columns. */
        void settle() {
            System.arraycopy(sums, 0, rounded, 0, cells);
            for (int r = 0; r < rows; r++) {
                for (int set = 0; set < 1 << columns; set++) {
                    for (int c = 0; c < columns; c++) {
                        parts[r << MOST_COLUMNS | set] += hasBit(set, c) ? sums[r * columns + c] : 0;
                    }
                }
            }
        }

        int bitOf(int r, int c) {
            return 1 << r * columns + c;
        }

        int sumOf(int[] numbers, int r, int c) {
            int sum = 0;
            for (int k = 0; k < cells && k < numbers.length; k++) {
                sum += isIn(k, r, c) ? numbers[k] : 0;
            }
            return sum;
        }

        int greatestOf(int r, int c) {
            int most = 0;
            for (int k = 0; k < cells; k++) {
                most = isIn(k, r, c) ? Math.max(most, greatest[k]) : most;
            }
            return most;
        }

        /** A row, or a column, one behind the last stands for all of them. */
        private boolean isIn(int k, int r, int c) {
            return columns > 0 && (r == rows || k / columns == r) && (c == columns || k % columns == c);
        }

        /** The least sum of cells that are hidden beside the primary ones, or NONE. */
        int hide(int few, int share, int wide) {
            primary = 0;
            for (int k = 0; k < cells; k++) {
                boolean isFew = contributors[k] > 0 && contributors[k] < few;
                if (isFew || 100L * greatest[k] > (long) share * sums[k]) {
                    primary |= 1 << k;
                }
            }
            int all = (1 << cells) - 1;
            bestSet = NONE;
            bestCost = ENDLESS;
            if (isGood(all, wide)) {
                choose(primary, all & ~primary, 0, wide);
            }
            secrets = bestSet == NONE ? all : bestSet;
            return bestSet == NONE ? NONE : bestCost;
        }

        /**
         * The set is good with all the open cells, of which there is one less each time. The highest
         * come first and are left out first, so of sets with the same sum the one with the least bits
         * is met first. What is not good with all that may still come is not good with less: more
         * secret cells only widen the intervals.
         */
        private void choose(int set, int open, int cost, int wide) {
            if (cost >= bestCost) {
                return;
            }
            if (open == 0) {
                bestSet = set;
                bestCost = cost;
                return;
            }
            int highest = Integer.highestOneBit(open);
            int rest = open & ~highest;
            if (isGood(set | rest, wide)) {
                choose(set, rest, cost, wide);
            }
            int k = Integer.numberOfTrailingZeros(highest);
            choose(set | highest, rest, cost + (k < cells ? sums[k] + 1 : 0), wide);
        }

        private boolean isGood(int set, int wide) {
            for (int k = 0; k < cells; k++) {
                if (hasBit(primary, k) && (roomAbove(set, k) < wide
                        || roomBelow(set, k) < Math.min(wide, sums[k]))) {
                    return false;
                }
            }
            return true;
        }

        int greatestGuess(int r, int c) {
            int k = r * columns + c;
            return sums[k] + (hasBit(secrets, k) ? roomAbove(secrets, k) : 0);
        }

        int leastGuess(int r, int c) {
            int k = r * columns + c;
            return sums[k] - (hasBit(secrets, k) ? roomBelow(secrets, k) : 0);
        }

        /**
         * How far a secret cell can rise: other cells of its row must fall, then others rise in the
         * columns of these, and so on, until its column is whole again. That is a flow from its row
         * to its column that is held up by falling cells alone, so it is as great as the least cut:
         * a set of rows that it does not reach, and the cells by which it would come to their columns.
         */
        private int roomAbove(int set, int k) {
            if (columns <= 0) {
                return 0;
            }
            int others = set & ~(1 << k);
            int least = ENDLESS;
            for (int apart = 0; apart < 1 << rows; apart++) {
                if (!hasBit(apart, k / columns)) {
                    int touched = columnsOf(others, apart) | 1 << k % columns;
                    least = Math.min(least, cut(others, apart, touched));
                }
            }
            return least;
        }

        /** How far it can fall: the same flow, with rising and falling cells in each other's place. */
        private int roomBelow(int set, int k) {
            if (columns <= 0) {
                return 0;
            }
            int others = set & ~(1 << k);
            int least = sums[k];
            for (int reached = 0; reached < 1 << rows; reached++) {
                int touched = columnsOf(others, reached);
                if (hasBit(reached, k / columns) && !hasBit(touched, k % columns)) {
                    least = Math.min(least, cut(others, reached, touched));
                }
            }
            return least;
        }

        /** The columns in which a set has cells of some rows. */
        private int columnsOf(int set, int someRows) {
            int found = 0;
            for (int r = 0; r < rows; r++) {
                found |= hasBit(someRows, r) ? set >> r * columns : 0;
            }
            return found & (1 << columns) - 1;
        }

        private int cut(int set, int withoutRows, int inColumns) {
            int sum = 0;
            for (int r = 0; r < rows; r++) {
                if (!hasBit(withoutRows, r)) {
                    sum += parts[r << MOST_COLUMNS | set >> r * columns & inColumns];
                }
            }
            return sum;
        }

        /** How many cells are raised; of a cell that is a multiple already neither is done. */
        int roundTo(int base) {
            if (base < 1) {
                return 0;
            }
            int raisable = 0;
            for (int k = 0; k < cells; k++) {
                raisable |= sums[k] % base != 0 ? 1 << k : 0;
            }
            int raised = Math.max(0, raise(raisable, 0, base, 0));
            for (int k = 0; k < cells; k++) {
                rounded[k] = sums[k] - sums[k] % base + (hasBit(raised, k) ? base : 0);
            }
            return Integer.bitCount(raised);
        }

        /** The first set of raised cells, lower numbers first, with which all sums are kept; or NONE. */
        private int raise(int raisable, int raised, int base, int k) {
            if (k >= cells) {
                return raised;
            }
            int open = raisable & -2 << k;
            int found = NONE;
            if (keepsSums(open, raised, base, k)) {
                found = raise(raisable, raised, base, k + 1);
            }
            if (found == NONE && hasBit(raisable, k) && keepsSums(open, raised | 1 << k, base, k)) {
                found = raise(raisable, raised | 1 << k, base, k + 1);
            }
            return found;
        }

        private boolean keepsSums(int open, int raised, int base, int k) {
            return columns > 0 && keepsSum(open, raised, base, k / columns, columns)
                    && keepsSum(open, raised, base, rows, k % columns)
                    && keepsSum(open, raised, base, rows, columns);
        }

        /** A sum is kept if it goes off by less than the base; open cells may yet be raised. */
        private boolean keepsSum(int open, int raised, int base, int r, int c) {
            int least = 0;
            int most = 0;
            for (int k = 0; k < cells; k++) {
                if (isIn(k, r, c)) {
                    least += (hasBit(raised, k) ? base : 0) - sums[k] % base;
                    most += hasBit(open, k) ? base : 0;
                }
            }
            return least < base && least + most > -base;
        }
    }

    /** A table's numbers and secret cells as they were when it was made. */
    private static final class Release {
        private final Table table;
        private final int[] numbers;
        private final int secrets;
        private final int maker;
        private final int minute;

        Release(Table table, int maker, int minute) {
            this.table = table;
            this.numbers = Arrays.copyOf(table.rounded, table.cells);
            this.secrets = table.secrets;
            this.maker = maker;
            this.minute = minute;
        }

        int seenBy(int person, int roles, int now, int r, int c) {
            if (now < minute && person != maker) {
                return NOT_YET;
            }
            if (roles == 0) {
                return NO_RIGHT;
            }
            boolean isCell = r < table.rows && c < table.columns;
            if (isCell && (secrets & table.bitOf(r, c)) != 0 && (roles & KEEPER) == 0) {
                return SECRET;
            }
            return table.sumOf(numbers, r, c);
        }
    }
}
