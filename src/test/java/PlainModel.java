import java.util.ArrayDeque;
import java.util.ArrayList;
import java.util.Arrays;
import java.util.Comparator;
import java.util.HashMap;
import java.util.List;
import java.util.Map;
import java.util.TreeMap;

/**
 * The document's promises once more, as plainly as may be: all sets are tried, all shortest paths
 * and flows are worked out. It is slow and makes what it likes; ModelTest compares it with the class.
 */
final class PlainModel {
    static final int NONE = -1;
    static final int ABSENT = -2000000;
    static final int NOT_YET = -12;
    static final int NO_RIGHT = -13;
    static final int SECRET = -14;

    private record Telling(int unit, int field, int from, int number, int told) { }

    private record Merge(int unit, int into, int told) { }

    private record Token(char kind, String text, int place) { }

    private record Term(int sign, char kind, int number) { }

    private record Compare(List<Term> left, String relation, List<Term> right) { }

    private record Rule(int a, int b, int n) { }

    private static final class Fault extends RuntimeException {
        private static final long serialVersionUID = 1L;
        private final int place;

        Fault(int place) {
            this.place = place;
        }
    }

    private static final class Statement {
        private String sort;
        private String name;
        private int low;
        private int high;
        private int cost;
        private List<Term> expr;
        private List<List<Compare>> cond;
    }

    private static final class Form {
        private final List<Statement> statements = new ArrayList<>();
        private final List<Rule> rules = new ArrayList<>();
    }

    private static final class Session {
        private Form form;
        private int unit;
        private final int[] regs = new int[6];
        private final Map<Integer, Integer> given = new HashMap<>();
        private final Map<Integer, Integer> aside = new HashMap<>();
        private final List<Integer> notes = new ArrayList<>();
        private int notedQuestion = NONE;
        private int notedNumber;
        private boolean closed;
        private int[] items;
        private final List<Integer> broken = new ArrayList<>();
        private int question;
    }

    private static final class Rec {
        private Form form;
        private int unit;
        private int[] regs;
        private int[] items;
        private int[] marks;
    }

    private static final class Sample {
        private final List<Integer> drawn = new ArrayList<>();
        private final Map<Integer, int[]> chances = new HashMap<>();
    }

    private static final class Table {
        private int rows;
        private int columns;
        private int[] sums;
        private int[] counts;
        private int[] greatest;
        private int[] rounded;
        private int primary;
        private int secret;
    }

    private record Release(Table table, int[] numbers, int secret, int maker, int minute) { }

    private int minute;
    private int units;
    private final List<Telling> tellings = new ArrayList<>();
    private final List<Merge> merges = new ArrayList<>();
    private String tape = "";
    private final List<Form> forms = new ArrayList<>();
    private final List<Session> sessions = new ArrayList<>();
    private final List<Rec> records = new ArrayList<>();
    private final List<Sample> samples = new ArrayList<>();
    private final List<Table> tables = new ArrayList<>();
    private final List<Integer> persons = new ArrayList<>();
    private final List<Release> releases = new ArrayList<>();
    private final List<int[]> looks = new ArrayList<>();

    private static void index(boolean there) {
        if (!there) {
            throw new IndexOutOfBoundsException();
        }
    }

    private static void argument(boolean right) {
        if (!right) {
            throw new IllegalArgumentException();
        }
    }

    private static void state(boolean right) {
        if (!right) {
            throw new IllegalStateException();
        }
    }

    private static void room(boolean there) {
        if (!there) {
            throw new UnsupportedOperationException();
        }
    }

    private static boolean within(int k, int size) {
        return 0 <= k && k < size;
    }

    private int day() {
        return minute / 1440;
    }

    int tick(int n) {
        argument(n >= 0 && n <= 1000000 && (long) minute + n <= 100000000);
        minute += n;
        return minute;
    }

    // ---- the register

    int unit() {
        room(units < 100);
        return units++;
    }

    private boolean merged(int unit) {
        return merges.stream().anyMatch(m -> m.unit == unit);
    }

    private int last(int unit, int known) {
        for (Merge m : merges) {
            if (m.unit == unit && m.told <= known) {
                return last(m.into, known);
            }
        }
        return unit;
    }

    int tell(int unit, int field, int day, int v) {
        index(within(unit, units) && within(field, 6));
        argument(day >= 0 && day <= 100000 && Math.abs((long) v) <= 1000000);
        state(!merged(unit));
        room(tellings.size() < 1500);
        tellings.add(new Telling(unit, field, day, v, day()));
        return tellings.size();
    }

    int merge(int unit, int into) {
        index(within(unit, units) && within(into, units));
        state(!merged(unit) && last(unit) != last(into));
        merges.add(new Merge(unit, into, day()));
        return last(unit);
    }

    private int valueOf(int unit, int field, int day, int known) {
        Telling best = null;
        for (Telling t : tellings) {
            if (t.field == field && t.told <= known && t.from <= day && last(t.unit, known) == last(unit, known)
                    && (best == null || t.from >= best.from)) {
                best = t;
            }
        }
        return best == null ? ABSENT : best.number;
    }

    int value(int unit, int field, int day, int known) {
        index(within(unit, units) && within(field, 6));
        argument(day >= 0 && known >= 0);
        return valueOf(unit, field, day, known);
    }

    int last(int unit) {
        index(within(unit, units));
        return last(unit, day());
    }

    // ---- forms

    int feed(int a, int b, int c, int d, int e) {
        room(tape.length() + 20 <= 1200);
        StringBuilder more = new StringBuilder(tape);
        for (int number : new int[] {a, b, c, d, e}) {
            for (int shift = 24; shift >= 0; shift -= 8) {
                more.append((char) (number >>> shift & 255));
            }
        }
        tape = more.toString();
        return tape.length();
    }

    int trim(int n) {
        argument(n >= 0 && n <= tape.length());
        int had = tape.length();
        tape = tape.substring(0, n);
        return had;
    }

    private static List<Token> tokens(String text) {
        List<Token> found = new ArrayList<>();
        java.util.regex.Matcher words = java.util.regex.Pattern
                .compile("[\\t\\n\\r ]+|([a-z]+)|([0-9]+)|(<=|<>|>=|<|>|=)|([-+;])|([\\s\\S])").matcher(text);
        while (words.find()) {
            String word = words.group();
            if (words.group(1) != null) {
                found.add(new Token(word.length() > 8 ? '?' : 'w', word, words.start()));
            } else if (words.group(2) != null) {
                found.add(new Token(word.length() > 6 ? '?' : '0', word, words.start()));
            } else if (words.group(3) != null) {
                found.add(new Token('r', word, words.start()));
            } else if (words.group(4) != null) {
                found.add(new Token(word.charAt(0), word, words.start()));
            } else if (words.group(5) != null) {
                found.add(new Token('?', word, words.start()));
            }
        }
        found.add(new Token('.', "", text.length()));
        return found;
    }

    private static final class Parser {
        private static final List<String> KEPT = List.of("ask", "let", "must", "warn", "if", "and", "or", "reg");
        private final List<Token> tokens;
        private final Form form = new Form();
        private int at = 0;

        Parser(String text) {
            tokens = tokens(text);
        }

        private Token here() {
            return tokens.get(at);
        }

        private boolean isWord(String word) {
            return here().kind == 'w' && here().text.equals(word);
        }

        private Token want(char kind) {
            if (here().kind != kind) {
                throw new Fault(here().place);
            }
            return tokens.get(at++);
        }

        private int told(String name) {
            for (int s = 0; s < form.statements.size(); s++) {
                if (name.equals(form.statements.get(s).name)) {
                    return s;
                }
            }
            return NONE;
        }

        Form form() {
            do {
                form.statements.add(statement());
            } while (here().kind != '.');
            return form;
        }

        private Statement statement() {
            Statement s = new Statement();
            Token first = want('w');
            long asks = form.statements.stream().filter(t -> t.sort.equals("ask")).count();
            if (!KEPT.subList(0, 4).contains(first.text) || form.statements.size() == 20
                    || first.text.equals("ask") && asks == 10) {
                throw new Fault(first.place);
            }
            s.sort = first.text;
            if (s.sort.equals("ask") || s.sort.equals("let")) {
                Token name = want('w');
                if (KEPT.contains(name.text) || told(name.text) != NONE) {
                    throw new Fault(name.place);
                }
                if (s.sort.equals("ask")) {
                    s.low = signed();
                    int place = here().place;
                    s.high = signed();
                    s.cost = 1;
                    if (s.high < s.low) {
                        throw new Fault(place);
                    }
                } else {
                    s.expr = expr();
                }
                if (isWord("if")) {
                    at++;
                    s.cond = cond();
                }
                want(';');
                s.name = name.text;
            } else {
                s.cond = cond();
                want(';');
            }
            return s;
        }

        private int signed() {
            if (here().kind == '-') {
                at++;
                return -Integer.parseInt(want('0').text);
            }
            return Integer.parseInt(want('0').text);
        }

        private List<List<Compare>> cond() {
            List<List<Compare>> ors = new ArrayList<>();
            do {
                at += ors.isEmpty() ? 0 : 1;
                List<Compare> ands = new ArrayList<>();
                do {
                    at += ands.isEmpty() ? 0 : 1;
                    List<Term> left = expr();
                    String relation = want('r').text;
                    ands.add(new Compare(left, relation, expr()));
                } while (isWord("and"));
                ors.add(ands);
            } while (isWord("or"));
            return ors;
        }

        private List<Term> expr() {
            List<Term> terms = new ArrayList<>();
            terms.add(term(1));
            while (here().kind == '+' || here().kind == '-') {
                int sign = tokens.get(at++).kind == '+' ? 1 : -1;
                terms.add(term(sign));
            }
            return terms;
        }

        private Term term(int sign) {
            if (here().kind == '-' || here().kind == '0') {
                return new Term(sign, '0', signed());
            }
            Token word = want('w');
            if (word.text.equals("reg")) {
                Token number = want('0');
                if (Integer.parseInt(number.text) > 5) {
                    throw new Fault(number.place);
                }
                return new Term(sign, 'r', Integer.parseInt(number.text));
            }
            if (told(word.text) == NONE) {
                throw new Fault(word.place);
            }
            return new Term(sign, 'i', told(word.text));
        }
    }

    int form() {
        room(forms.size() < 6);
        String text = tape;
        tape = "";
        try {
            forms.add(new Parser(text).form());
        } catch (Fault fault) {
            return -1 - fault.place;
        }
        return forms.size() - 1;
    }

    private Form formAt(int form) {
        index(within(form, forms.size()));
        return forms.get(form);
    }

    private Statement statementAt(Form form, int statement) {
        index(within(statement, form.statements.size()));
        return form.statements.get(statement);
    }

    private static boolean isAsk(Form form, int s) {
        return form.statements.get(s).sort.equals("ask");
    }

    int statement(int form, int statement, int what) {
        Statement s = statementAt(formAt(form), statement);
        argument(within(what, 4));
        return new int[] {List.of("ask", "let", "must", "warn").indexOf(s.sort), s.low, s.high, s.cost}[what];
    }

    // ---- sessions

    private static Integer worth(List<Term> expr, int[] items, int[] regs) {
        long sum = 0;
        for (Term t : expr) {
            int number = t.kind == '0' ? t.number : t.kind == 'i' ? items[t.number] : regs[t.number];
            if (number == ABSENT) {
                return null;
            }
            sum += (long) t.sign * number;
        }
        return Math.abs(sum) > 1000000 ? null : (Integer) (int) sum;
    }

    private static boolean holds(Compare c, int[] items, int[] regs) {
        Integer left = worth(c.left, items, regs);
        Integer right = worth(c.right, items, regs);
        if (left == null || right == null) {
            return false;
        }
        int order = left.compareTo(right);
        return switch (c.relation) {
            case "<" -> order < 0;
            case "<=" -> order <= 0;
            case "=" -> order == 0;
            case "<>" -> order != 0;
            case ">=" -> order >= 0;
            default -> order > 0;
        };
    }

    private static boolean holds(List<List<Compare>> cond, int[] items, int[] regs) {
        return cond == null || cond.stream().anyMatch(ands -> ands.stream().allMatch(c -> holds(c, items, regs)));
    }

    private static boolean lacks(List<List<Compare>> cond, int[] items, int[] regs) {
        return cond.stream().anyMatch(ands -> ands.stream().anyMatch(
                c -> worth(c.left, items, regs) == null || worth(c.right, items, regs) == null));
    }

    private static int letOf(Statement s, int[] items, int[] regs) {
        Integer worth = holds(s.cond, items, regs) ? worth(s.expr, items, regs) : null;
        return worth == null ? ABSENT : worth;
    }

    private static void walk(Session session) {
        Form form = session.form;
        session.items = new int[form.statements.size()];
        Arrays.fill(session.items, ABSENT);
        session.broken.clear();
        session.question = NONE;
        for (int s = 0; s < form.statements.size(); s++) {
            Statement at = form.statements.get(s);
            switch (at.sort) {
                case "ask":
                    if (holds(at.cond, session.items, session.regs)) {
                        if (!session.given.containsKey(s)) {
                            session.question = s;
                            return;
                        }
                        session.items[s] = session.given.get(s);
                    }
                    break;
                case "let":
                    session.items[s] = letOf(at, session.items, session.regs);
                    break;
                default:
                    if (!holds(at.cond, session.items, session.regs) && !lacks(at.cond, session.items, session.regs)) {
                        session.broken.add(s);
                    }
            }
        }
    }

    int open(int form, int unit) {
        Form asked = formAt(form);
        index(within(unit, units));
        state(!merged(unit));
        room(sessions.size() < 60);
        Session session = new Session();
        session.form = asked;
        session.unit = unit;
        for (int k = 0; k < 6; k++) {
            session.regs[k] = valueOf(unit, k, day(), day());
        }
        walk(session);
        sessions.add(session);
        return sessions.size() - 1;
    }

    private Session sessionAt(int session) {
        index(within(session, sessions.size()));
        return sessions.get(session);
    }

    int question(int session) {
        Session at = sessionAt(session);
        return at.closed ? NONE : at.question;
    }

    int answer(int session, int v) {
        Session at = sessionAt(session);
        state(!at.closed && at.question != NONE);
        int q = at.question;
        Statement asked = at.form.statements.get(q);
        argument(v >= asked.low && v <= asked.high);
        if (q != at.notedQuestion || v != at.notedNumber) {
            at.notes.clear();
        }
        at.notedQuestion = q;
        at.notedNumber = v;
        at.given.put(q, v);
        walk(at);
        for (String sort : List.of("must", "warn")) {
            for (int s : at.broken) {
                if (s > q && at.form.statements.get(s).sort.equals(sort) && !at.notes.contains(s)) {
                    if (sort.equals("warn")) {
                        at.notes.add(s);
                    }
                    at.given.remove(q);
                    walk(at);
                    return (sort.equals("must") ? 100 : 200) + s;
                }
            }
        }
        at.notes.clear();
        at.aside.remove(q);
        while (at.question != NONE && at.aside.containsKey(at.question)) {
            int next = at.question;
            at.given.put(next, at.aside.get(next));
            walk(at);
            if (at.broken.stream().anyMatch(s -> s > next)) {
                at.given.remove(next);
                walk(at);
                break;
            }
            at.aside.remove(next);
        }
        return 0;
    }

    int back(int session) {
        Session at = sessionAt(session);
        state(!at.closed);
        if (at.given.isEmpty()) {
            return NONE;
        }
        int q = at.given.keySet().stream().max(Comparator.naturalOrder()).get();
        at.aside.put(q, at.given.remove(q));
        at.notes.clear();
        walk(at);
        return at.question;
    }

    int given(int session, int statement, boolean aside) {
        Session at = sessionAt(session);
        statementAt(at.form, statement);
        return aside ? at.aside.getOrDefault(statement, ABSENT) : at.items[statement];
    }

    int close(int session) {
        Session at = sessionAt(session);
        state(!at.closed && at.question == NONE);
        at.closed = true;
        Rec made = new Rec();
        made.form = at.form;
        made.unit = at.unit;
        made.regs = at.regs;
        made.items = at.items.clone();
        made.marks = new int[made.items.length];
        records.add(made);
        return records.size() - 1;
    }

    // ---- records, edits

    private Rec recordAt(int record) {
        index(within(record, records.size()));
        return records.get(record);
    }

    int item(int record, int statement) {
        Rec at = recordAt(record);
        statementAt(at.form, statement);
        return at.items[statement];
    }

    int mark(int record, int statement) {
        Rec at = recordAt(record);
        statementAt(at.form, statement);
        return at.marks[statement];
    }

    int rule(int form, int a, int b, int n) {
        Form at = formAt(form);
        index((a == NONE || within(a, at.statements.size())) && (b == NONE || within(b, at.statements.size())));
        argument((a == NONE || isAsk(at, a)) && (b == NONE || isAsk(at, b)) && a != b && n >= -2000000 && n <= 2000000);
        room(at.rules.size() < 16);
        at.rules.add(new Rule(a, b, n));
        return at.rules.size() - 1;
    }

    int cost(int form, int statement, int c) {
        Statement s = statementAt(formAt(form), statement);
        argument(s.sort.equals("ask") && c >= 1 && c <= 100);
        int was = s.cost;
        s.cost = c;
        return was;
    }

    private static List<Integer> brokenBy(Form form, int[] items) {
        List<Integer> found = new ArrayList<>();
        for (int k = 0; k < form.rules.size(); k++) {
            Rule rule = form.rules.get(k);
            int a = rule.a == NONE ? 0 : items[rule.a];
            int b = rule.b == NONE ? 0 : items[rule.b];
            if (a != ABSENT && b != ABSENT && a - b > rule.n) {
                found.add(k);
            }
        }
        return found;
    }

    int broken(int record, int k) {
        Rec at = recordAt(record);
        index(k >= NONE);
        List<Integer> found = brokenBy(at.form, at.items);
        return k == NONE ? found.size() : k < found.size() ? found.get(k) : NONE;
    }

    /** By all shortest paths: node count is 0, an edge from b to a says that a is at most b and so much. */
    private static int[] greatest(Rec at, int set) {
        int zero = at.items.length;
        long far = Long.MAX_VALUE / 4;
        long[][] path = new long[zero + 1][zero + 1];
        for (long[] row : path) {
            Arrays.fill(row, far);
        }
        for (int s = 0; s < zero; s++) {
            if (at.items[s] != ABSENT) {
                boolean free = (set >> s & 1) != 0;
                path[zero][s] = free ? at.form.statements.get(s).high : at.items[s];
                path[s][zero] = free ? -at.form.statements.get(s).low : -at.items[s];
            }
        }
        for (int k = 0; k <= zero; k++) {
            path[k][k] = 0;
        }
        for (Rule rule : at.form.rules) {
            int a = rule.a == NONE ? zero : rule.a;
            int b = rule.b == NONE ? zero : rule.b;
            if ((a == zero || at.items[a] != ABSENT) && (b == zero || at.items[b] != ABSENT)) {
                path[b][a] = Math.min(path[b][a], rule.n);
            }
        }
        for (int k = 0; k <= zero; k++) {
            for (int i = 0; i <= zero; i++) {
                for (int j = 0; j <= zero; j++) {
                    if (path[i][k] < far && path[k][j] < far) {
                        path[i][j] = Math.min(path[i][j], path[i][k] + path[k][j]);
                    }
                }
            }
        }
        int[] numbers = at.items.clone();
        for (int s = 0; s <= zero; s++) {
            if (path[s][s] < 0) {
                return null;
            }
            if (s < zero && (set >> s & 1) != 0) {
                numbers[s] = (int) path[zero][s];
            }
        }
        return numbers;
    }

    private static int costOf(Rec at, int set) {
        int sum = 0;
        for (int s = 0; s < at.items.length; s++) {
            sum += (set >> s & 1) != 0 ? at.form.statements.get(s).cost : 0;
        }
        return sum;
    }

    private static int leastSet(Rec at) {
        List<Integer> sets = new ArrayList<>();
        int free = 0;
        for (int s = 0; s < at.items.length; s++) {
            free |= isAsk(at.form, s) && at.items[s] != ABSENT ? 1 << s : 0;
        }
        for (int set = free;; set = set - 1 & free) {
            sets.add(set);
            if (set == 0) {
                break;
            }
        }
        sets.sort(Comparator.comparingInt((Integer set) -> costOf(at, set)).thenComparingInt(set -> set));
        if (greatest(at, free) == null) {
            return NONE;
        }
        return sets.stream().filter(set -> greatest(at, set) != null).findFirst().get();
    }

    int least(int record, boolean bits) {
        Rec at = recordAt(record);
        int set = leastSet(at);
        return set == NONE || bits ? set : costOf(at, set);
    }

    private static int distance(Rec one, Rec other, int set) {
        int sum = 0;
        for (int s = 0; s < one.items.length; s++) {
            if (isAsk(one.form, s) && (set >> s & 1) == 0 && one.items[s] != ABSENT && other.items[s] != ABSENT) {
                sum += Math.abs(one.items[s] - other.items[s]);
            }
        }
        return sum;
    }

    private static int[] with(Rec at, int[] numbers, int set) {
        int[] items = at.items.clone();
        for (int s = 0; s < items.length; s++) {
            items[s] = (set >> s & 1) != 0 ? numbers[s] : items[s];
        }
        return items;
    }

    int impute(int record, int way) {
        Rec at = recordAt(record);
        argument(way == 0 || way == 1);
        int set = leastSet(at);
        state(set != NONE);
        int[] items = greatest(at, set);
        int mark = 1;
        if (way == 1) {
            Rec donor = records.stream().filter(r -> r != at && r.form == at.form && brokenBy(r.form, r.items).isEmpty())
                    .filter(r -> Arrays.stream(with(at, r.items, set)).filter(v -> v == ABSENT).count()
                            == Arrays.stream(at.items).filter(v -> v == ABSENT).count())
                    .sorted(Comparator.comparingInt((Rec r) -> distance(at, r, set)))
                    .filter(r -> brokenBy(at.form, with(at, r.items, set)).isEmpty()).findFirst().orElse(null);
            if (donor != null) {
                items = with(at, donor.items, set);
                mark = 2;
            }
        }
        for (int s = 0; s < items.length; s++) {
            at.items[s] = items[s];
            at.marks[s] = (set >> s & 1) != 0 ? mark : at.marks[s];
        }
        for (int s = 0; s < items.length; s++) {
            Statement let = at.form.statements.get(s);
            if (let.sort.equals("let")) {
                at.items[s] = letOf(let, at.items, at.regs);
            }
        }
        return Integer.bitCount(set);
    }

    // ---- samples

    private static int key(int seed, int unit) {
        int h = seed ^ (unit * 0x9E3779B9);
        h = h * 0x85EBCA6B;
        h = h ^ (h >>> 13);
        h = h * 0xC2B2AE35;
        return h ^ (h >>> 16);
    }

    int sample(int f, int low, int high, int g, int n, int seed) {
        index(within(f, 6) && within(g, 6));
        TreeMap<Integer, List<Integer>> strata = new TreeMap<>();
        int all = 0;
        for (int u = 0; u < units; u++) {
            int v = valueOf(u, f, day(), day());
            int w = valueOf(u, g, day(), day());
            if (!merged(u) && v != ABSENT && v >= low && v <= high && w != ABSENT) {
                strata.computeIfAbsent(w, k -> new ArrayList<>()).add(u);
                all++;
            }
        }
        argument(n >= 0 && n <= all);
        room(samples.size() < 12);
        Sample made = new Sample();
        TreeMap<Integer, Integer> got = new TreeMap<>();
        int left = n;
        for (Map.Entry<Integer, List<Integer>> e : strata.entrySet()) {
            got.put(e.getKey(), n * e.getValue().size() / all);
            left -= got.get(e.getKey());
        }
        int whole = all;
        List<Integer> byRest = new ArrayList<>(strata.keySet());
        byRest.sort(Comparator.comparingInt((Integer k) -> -(n * strata.get(k).size() % whole)));
        for (int k = 0; k < left; k++) {
            got.merge(byRest.get(k), 1, Integer::sum);
        }
        for (Map.Entry<Integer, List<Integer>> e : strata.entrySet()) {
            List<Integer> list = new ArrayList<>(e.getValue());
            list.sort(Comparator.comparingInt((Integer u) -> key(seed, u)));
            made.drawn.addAll(list.subList(0, got.get(e.getKey())));
            for (int u : list) {
                made.chances.put(u, new int[] {got.get(e.getKey()), list.size()});
            }
        }
        made.drawn.sort(Comparator.naturalOrder());
        samples.add(made);
        return samples.size() - 1;
    }

    private Sample sampleAt(int sample) {
        index(within(sample, samples.size()));
        return samples.get(sample);
    }

    int drawn(int sample, int k) {
        Sample at = sampleAt(sample);
        index(k >= 0);
        return k < at.drawn.size() ? at.drawn.get(k) : NONE;
    }

    int chance(int sample, int unit, boolean below) {
        Sample at = sampleAt(sample);
        index(within(unit, units));
        int[] chance = at.chances.getOrDefault(unit, new int[] {0, 1});
        int by = java.math.BigInteger.valueOf(chance[0]).gcd(java.math.BigInteger.valueOf(chance[1])).intValue();
        return chance[below ? 1 : 0] / by;
    }

    int overlap(int a, int b) {
        Sample one = sampleAt(a);
        Sample other = sampleAt(b);
        return (int) one.drawn.stream().filter(other.drawn::contains).count();
    }

    // ---- tables

    int table(int form, int row, int column, int measure, int sample) {
        Form at = formAt(form);
        Statement r = statementAt(at, row);
        Statement c = statementAt(at, column);
        Statement m = measure == NONE ? null : statementAt(at, measure);
        Sample drawn = sample == NONE ? null : sampleAt(sample);
        argument(r.sort.equals("ask") && c.sort.equals("ask") && row != column
                && (m == null || m.sort.equals("ask") || m.sort.equals("let"))
                && r.high - r.low < 4 && c.high - c.low < 3);
        room(tables.size() < 12);
        Table made = new Table();
        made.rows = r.high - r.low + 1;
        made.columns = c.high - c.low + 1;
        made.sums = new int[made.rows * made.columns];
        made.counts = new int[made.sums.length];
        made.greatest = new int[made.sums.length];
        for (Rec rec : records) {
            int size = m == null ? 1 : rec.form == at ? rec.items[measure] : ABSENT;
            if (rec.form == at && brokenBy(at, rec.items).isEmpty()
                    && (drawn == null || drawn.drawn.contains(last(rec.unit, day())))
                    && rec.items[row] != ABSENT && rec.items[column] != ABSENT && size != ABSENT && size >= 0) {
                int k = (rec.items[row] - r.low) * made.columns + rec.items[column] - c.low;
                made.sums[k] += size;
                made.counts[k]++;
                made.greatest[k] = Math.max(made.greatest[k], size);
            }
        }
        made.rounded = made.sums.clone();
        tables.add(made);
        return tables.size() - 1;
    }

    private Table tableAt(int table) {
        index(within(table, tables.size()));
        return tables.get(table);
    }

    private static int sum(Table at, int[] numbers, int r, int c) {
        int sum = 0;
        for (int i = r == at.rows ? 0 : r; i < (r == at.rows ? at.rows : r + 1); i++) {
            for (int j = c == at.columns ? 0 : c; j < (c == at.columns ? at.columns : c + 1); j++) {
                sum += numbers[i * at.columns + j];
            }
        }
        return sum;
    }

    int cell(int table, int r, int c, int what) {
        Table at = tableAt(table);
        index(within(r, at.rows + 1) && within(c, at.columns + 1));
        argument(within(what, 4));
        if (what == 2) {
            int most = 0;
            for (int k = 0; k < at.greatest.length; k++) {
                boolean in = (r == at.rows || k / at.columns == r) && (c == at.columns || k % at.columns == c);
                most = in ? Math.max(most, at.greatest[k]) : most;
            }
            return most;
        }
        return sum(at, what == 0 ? at.sums : what == 1 ? at.counts : at.rounded, r, c);
    }

    /** Shifts along shortest ways, as long as there is one; rows are nodes 0 on, columns behind them. */
    private static long shift(Table at, int set, int cell, boolean up) {
        int[] x = at.sums.clone();
        long moved = 0;
        long limit = up ? Long.MAX_VALUE : at.sums[cell];
        while (moved < limit) {
            int[] from = new int[at.rows + at.columns];
            Arrays.fill(from, NONE);
            int source = cell / at.columns;
            int goal = at.rows + cell % at.columns;
            ArrayDeque<Integer> open = new ArrayDeque<>();
            open.add(source);
            from[source] = source;
            while (!open.isEmpty()) {
                int node = open.remove();
                for (int k = 0; k < x.length; k++) {
                    int row = k / at.columns;
                    int column = at.rows + k % at.columns;
                    if ((set >> k & 1) == 0 || k == cell) {
                        continue;
                    }
                    boolean falls = up == (node == row);
                    int next = node == row ? column : node == column ? row : NONE;
                    if (next != NONE && from[next] == NONE && (!falls || x[k] > 0)) {
                        from[next] = node;
                        open.add(next);
                    }
                }
            }
            if (from[goal] == NONE) {
                return moved;
            }
            long step = limit - moved;
            for (int pass = 0; pass < 2; pass++) {
                for (int node = goal; node != source; node = from[node]) {
                    int row = Math.min(node, from[node]);
                    int k = row * at.columns + Math.max(node, from[node]) - at.rows;
                    boolean falls = up == (from[node] == row);
                    if (pass == 0) {
                        step = falls ? Math.min(step, x[k]) : step;
                    } else {
                        x[k] += falls ? -step : step;
                    }
                }
            }
            moved += step;
        }
        return moved;
    }

    private static boolean isGood(Table at, int set, int wide) {
        for (int k = 0; k < at.sums.length; k++) {
            if ((at.primary >> k & 1) != 0 && (shift(at, set, k, true) < wide
                    || shift(at, set, k, false) < Math.min(wide, at.sums[k]))) {
                return false;
            }
        }
        return true;
    }

    private static int sumOfOthers(Table at, int set) {
        int sum = 0;
        for (int k = 0; k < at.sums.length; k++) {
            sum += (set >> k & 1) != 0 && (at.primary >> k & 1) == 0 ? at.sums[k] + 1 : 0;
        }
        return sum;
    }

    int secrecy(int table, int few, int share, int wide) {
        Table at = tableAt(table);
        argument(within(few, 101) && within(share, 101) && within(wide, 1000001));
        at.primary = 0;
        List<Integer> sets = new ArrayList<>();
        for (int k = 0; k < at.sums.length; k++) {
            if (at.counts[k] >= 1 && at.counts[k] < few || 100L * at.greatest[k] > (long) share * at.sums[k]) {
                at.primary |= 1 << k;
            }
        }
        int all = (1 << at.sums.length) - 1;
        for (int set = 0; set <= all; set++) {
            if ((set & at.primary) == at.primary) {
                sets.add(set);
            }
        }
        sets.sort(Comparator.comparingInt((Integer set) -> sumOfOthers(at, set)));
        for (int set : sets) {
            if (isGood(at, set, wide)) {
                at.secret = set;
                return sumOfOthers(at, set);
            }
        }
        at.secret = all;
        return NONE;
    }

    int secret(int table, int r, int c) {
        Table at = tableAt(table);
        index(within(r, at.rows) && within(c, at.columns));
        int k = r * at.columns + c;
        return (at.secret >> k & 1) == 0 ? 0 : (at.primary >> k & 1) != 0 ? 1 : 2;
    }

    int interval(int table, int r, int c, boolean up) {
        Table at = tableAt(table);
        index(within(r, at.rows) && within(c, at.columns));
        int k = r * at.columns + c;
        if ((at.secret >> k & 1) == 0) {
            return at.sums[k];
        }
        return (int) (at.sums[k] + (up ? 1 : -1) * shift(at, at.secret, k, up));
    }

    private static boolean near(int number, int sum, int base) {
        return sum % base == 0 ? number == sum : number == sum - sum % base || number == sum - sum % base + base;
    }

    int round(int table, int base) {
        Table at = tableAt(table);
        argument(base >= 1 && base <= 1000);
        int cells = at.sums.length;
        for (int ups = 0; ups < 1 << cells; ups++) {
            int[] numbers = new int[cells];
            boolean right = true;
            for (int k = 0; k < cells; k++) {
                boolean up = (ups >> cells - 1 - k & 1) != 0;
                right = right && !(up && at.sums[k] % base == 0);
                numbers[k] = at.sums[k] - at.sums[k] % base + (up ? base : 0);
            }
            for (int r = 0; right && r <= at.rows; r++) {
                for (int c = 0; c <= at.columns; c++) {
                    right = right && near(sum(at, numbers, r, c), sum(at, at.sums, r, c), base);
                }
            }
            if (right) {
                at.rounded = numbers;
                return Integer.bitCount(ups);
            }
        }
        throw new AssertionError("there is one always");
    }

    // ---- releases

    int person(int roles) {
        argument(within(roles, 8));
        room(persons.size() < 12);
        persons.add(roles);
        return persons.size() - 1;
    }

    int release(int person, int table, int at) {
        index(within(person, persons.size()));
        Table of = tableAt(table);
        state((persons.get(person) & 1) != 0);
        argument(at >= minute);
        room(releases.size() < 12);
        releases.add(new Release(of, of.rounded.clone(), of.secret, person, at));
        return releases.size() - 1;
    }

    int look(int person, int release, int r, int c) {
        index(within(person, persons.size()) && within(release, releases.size()));
        Release at = releases.get(release);
        index(within(r, at.table.rows + 1) && within(c, at.table.columns + 1));
        room(looks.size() < 500);
        int roles = persons.get(person);
        boolean isCell = r < at.table.rows && c < at.table.columns;
        int seen;
        if (minute < at.minute && person != at.maker) {
            seen = NOT_YET;
        } else if (roles == 0) {
            seen = NO_RIGHT;
        } else if (isCell && (at.secret >> r * at.table.columns + c & 1) != 0 && (roles & 4) == 0) {
            seen = SECRET;
        } else {
            seen = sum(at.table, at.numbers, r, c);
        }
        looks.add(new int[] {person, release, r, c, seen, minute});
        return seen;
    }

    int looked(int k, int what) {
        index(within(k, looks.size()));
        argument(within(what, 6));
        return looks.get(k)[what];
    }

    int told(int what) {
        argument(within(what, 15));
        int open = (int) sessions.stream().filter(s -> !s.closed).count();
        return new int[] {units, tellings.size(), merges.size(), forms.size(), sessions.size(), open, records.size(),
            samples.size(), tables.size(), persons.size(), releases.size(), looks.size(), tape.length(), minute,
            day()}[what];
    }
}
