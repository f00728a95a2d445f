import java.lang.reflect.InvocationTargetException;
import java.lang.reflect.Method;
import java.lang.reflect.Modifier;
import java.util.Arrays;
import java.util.HashMap;
import java.util.Map;
import java.util.Random;

/**
 * Runs of calls by written seeds, on the class and on PlainModel: each call must answer, or throw,
 * the same. An argument may be the number of runs of each kind.
 */
public final class ModelTest {
    private static final int MOST_CALLS = 512;
    private static final String[] NAMES = {"tick", "unit", "tell", "merge", "value", "last", "feed", "trim", "form",
        "statement", "open", "question", "answer", "back", "given", "close", "item", "mark", "rule", "cost", "broken",
        "least", "impute", "sample", "drawn", "chance", "overlap", "table", "cell", "secrecy", "secret", "interval",
        "round", "person", "release", "look", "looked", "told"};
    private static final int[] ARGUMENTS = {1, 0, 4, 2, 4, 1, 5, 1, 0, 3, 2, 1, 2, 1, 3, 1, 2, 2, 4, 3, 2, 2, 2, 6, 2, 3,
        2, 5, 4, 4, 3, 4, 2, 1, 3, 4, 2, 1};
    private static final Map<String, Method> METHODS = new HashMap<>();
    private static final Checks CHECKS = new Checks("ModelTest");

    private final Random random;
    private final CensusOffice office = new CensusOffice();
    private final PlainModel model = new PlainModel();
    private final StringBuilder told = new StringBuilder();
    private final String run;
    private int calls = 0;

    private ModelTest(int kind, int seed) {
        this.random = new Random(seed * 31L + kind);
        this.run = "kind " + kind + " seed " + seed;
    }

    public static void main(String[] args) {
        int runs = args.length > 0 ? Integer.parseInt(args[0]) : 60;
        for (int seed = 0; seed < runs && CHECKS.wrong() == 0; seed++) {
            new ModelTest(0, seed).anything();
            new ModelTest(1, seed).texts();
            new ModelTest(2, seed).sessions();
            new ModelTest(3, seed).edits();
            new ModelTest(4, seed).samples();
            new ModelTest(5, seed).tables();
            new ModelTest(6, seed).register();
        }
        CHECKS.end();
    }

    // ---- the runs

    private void anything() {
        for (int k = 0; k < 4; k++) {
            call("unit");
        }
        write(text(true));
        call("form");
        while (calls < MOST_CALLS) {
            int k = random.nextInt(60);
            if (k < NAMES.length) {
                int[] given = new int[ARGUMENTS[k]];
                for (int i = 0; i < given.length; i++) {
                    given[i] = anyNumber();
                }
                call(NAMES[k], given);
            } else if (k < 42 && calls < MOST_CALLS - 60) {
                write(text(random.nextInt(3) > 0));
                call("form");
            } else if (k < 52) {
                answerOne(any(told("told", 4)));
            } else {
                call("close", any(told("told", 4)));
            }
        }
    }

    private void register() {
        int units = 2 + random.nextInt(8);
        for (int k = 0; k < units; k++) {
            call("unit");
        }
        while (calls < MOST_CALLS - 3) {
            switch (random.nextInt(12)) {
                case 0:
                    call("merge", random.nextInt(units), random.nextInt(units));
                    break;
                case 1:
                    call("tick", random.nextInt(1500));
                    break;
                case 2:
                    call("last", random.nextInt(units));
                    break;
                case 3:
                case 4:
                case 5:
                    call("tell", random.nextInt(units), random.nextInt(2), random.nextInt(8),
                            random.nextInt(2000001) - 1000000);
                    break;
                default:
                    call("value", random.nextInt(units), random.nextInt(2), random.nextInt(9), random.nextInt(40));
            }
        }
    }

    private void texts() {
        for (int k = 0; k < 12 && calls < MOST_CALLS - 80; k++) {
            String text = text(true);
            if (random.nextInt(4) > 0) {
                text = spoilt(text);
            }
            if (random.nextInt(8) == 0) {
                text = text + text(true);
            }
            write(text.substring(0, Math.min(text.length(), 1200)));
            call("form");
            int forms = told("told", 3);
            for (int s = 0; s < 6 && forms > 0; s++) {
                call("statement", forms - 1, any(12), any(4));
            }
        }
    }

    private void sessions() {
        call("unit");
        call("unit");
        tellSome(2);
        write(text(false));
        if (call("form") < 0) {
            return;
        }
        call("open", 0, any(2));
        call("open", 0, 0);
        while (calls < MOST_CALLS - 20) {
            int session = random.nextInt(told("told", 4));
            switch (random.nextInt(8)) {
                case 0:
                    call("back", session);
                    break;
                case 1:
                    call("given", session, any(10), random.nextInt(2));
                    break;
                case 2:
                    call("question", session);
                    break;
                case 3:
                    if (random.nextInt(8) == 0) {
                        call("close", session);
                    } else {
                        call("back", session);
                    }
                    break;
                case 4:
                    if (random.nextInt(6) == 0) {
                        call("tick", random.nextInt(1500));
                        tellSome(2);
                        call("open", 0, any(2));
                    }
                    break;
                default:
                    answerOne(session);
                    showSession(session);
            }
        }
    }

    private void edits() {
        call("unit");
        StringBuilder text = new StringBuilder();
        int asks = 2 + random.nextInt(5);
        for (int k = 0; k < asks; k++) {
            char name = (char) ('a' + k);
            text.append("ask ").append(name).append(' ').append(random.nextInt(3)).append(' ')
                    .append(4 + random.nextInt(9));
            text.append(k > 0 && random.nextInt(4) == 0 ? " if a>" + random.nextInt(5) + ";" : ";");
        }
        text.append("let x a+b;let y 1 if a<b;");
        write(text.toString());
        call("form");
        for (int k = 0; k < 8; k++) {
            call("open", 0, 0);
            for (int i = 0; i < asks; i++) {
                answerOne(k);
            }
            call("close", k);
        }
        while (calls < MOST_CALLS - 40) {
            int record = random.nextInt(8);
            if (random.nextInt(6) == 0) {
                call("rule", 0, random.nextInt(asks + 1) - 1, random.nextInt(asks + 1) - 1,
                        random.nextInt(14) - (random.nextInt(4) == 0 ? 9 : 2));
            } else if (random.nextInt(6) == 0) {
                call("cost", 0, random.nextInt(asks), 1 + random.nextInt(5));
            }
            call("broken", record, random.nextInt(4) - 1);
            call("least", record, 0);
            call("least", record, 1);
            if (random.nextInt(3) == 0) {
                call("impute", record, random.nextInt(2));
                for (int s = 0; s < asks + 2; s++) {
                    call("item", record, s);
                    call("mark", record, s);
                }
            }
        }
    }

    private void samples() {
        int units = 5 + random.nextInt(40);
        int strata = 1 + random.nextInt(7);
        for (int k = 0; k < units; k++) {
            call("unit");
            call("tell", k, 0, 0, random.nextInt(10));
            call("tell", k, 1, random.nextInt(2), random.nextInt(strata) - 3);
        }
        for (int k = 0; k < 14; k++) {
            call("sample", 0, random.nextInt(4), 4 + random.nextInt(6), 1, random.nextInt(units), random.nextInt());
            int made = told("told", 7);
            for (int i = 0; i < 8 && made > 0; i++) {
                int sample = random.nextInt(made);
                call("drawn", sample, random.nextInt(12));
                int unit = random.nextInt(units);
                call("chance", sample, unit, 0);
                call("chance", sample, unit, 1);
                call("overlap", sample, random.nextInt(made));
            }
            call("tick", random.nextInt(1000));
            call("merge", random.nextInt(units), random.nextInt(units));
        }
    }

    private void tables() {
        call("unit");
        int rows = 1 + random.nextInt(4);
        int columns = 1 + random.nextInt(3);
        write("ask r 1 " + rows + ";ask c 1 " + columns + ";ask m 0 99999;");
        call("form");
        int most = random.nextInt(3) == 0 ? 99999 : 30;
        int count = random.nextInt(30);
        for (int k = 0; k < count; k++) {
            call("open", 0, 0);
            call("answer", k, 1 + random.nextInt(rows));
            call("answer", k, 1 + random.nextInt(columns));
            call("answer", k, random.nextInt(most));
            call("close", k);
        }
        call("table", 0, 0, 1, 2, -1);
        call("table", 0, 0, 1, -1, -1);
        call("person", 7);
        call("person", 2);
        while (calls < MOST_CALLS - 60) {
            int table = random.nextInt(2);
            call("secrecy", table, random.nextInt(4), 40 + random.nextInt(61), random.nextInt(most / 2));
            call("round", table, 1 + random.nextInt(random.nextBoolean() ? 12 : 1000));
            call("release", 0, table, told("told", 13));
            for (int k = 0; k < rows * columns; k++) {
                call("secret", table, k / columns, k % columns);
                call("interval", table, k / columns, k % columns, 0);
                call("interval", table, k / columns, k % columns, 1);
                call("cell", table, k / columns, k % columns, 3);
            }
            call("cell", table, random.nextInt(rows + 1), random.nextInt(columns + 1), random.nextInt(4));
            call("look", random.nextInt(2), told("told", 10) - 1, random.nextInt(rows + 1), random.nextInt(columns + 1));
            call("looked", told("told", 11) - 1, random.nextInt(6));
        }
    }

    // ---- what the runs are made of

    private int any(int count) {
        int k = random.nextInt(20);
        return k == 0 ? -1 : k == 1 ? count : count <= 0 ? 0 : random.nextInt(count);
    }

    private int anyNumber() {
        switch (random.nextInt(40)) {
            case 0:
                return random.nextInt();
            case 1:
                return -1000000 + random.nextInt(3) - 1;
            case 2:
                return 1000000 + random.nextInt(3) - 1;
            case 3:
                return Integer.MAX_VALUE - random.nextInt(2);
            case 4:
                return Integer.MIN_VALUE + random.nextInt(2);
            case 5:
                return PlainModel.ABSENT + random.nextInt(3) - 1;
            case 6:
                return random.nextInt(2000);
            default:
                return random.nextInt(6) - 1;
        }
    }

    private void tellSome(int units) {
        for (int k = 0; k < 6; k++) {
            if (random.nextInt(3) > 0) {
                call("tell", random.nextInt(units), k, random.nextInt(3), random.nextInt(9));
            }
        }
    }

    private void answerOne(int session) {
        int question = call("question", session);
        if (question >= 0) {
            int form = 0;
            int low = told("statement", form, question, 1);
            int high = told("statement", form, question, 2);
            int span = Math.max(1, Math.min(high - low + 1, 12));
            call("answer", session, random.nextInt(25) == 0 ? high + 1 : low + random.nextInt(span));
        }
    }

    private void showSession(int session) {
        call("question", session);
        for (int k = 0; k < 3; k++) {
            call("given", session, random.nextInt(12), random.nextInt(2));
        }
    }

    private void write(String text) {
        int had = told("told", 12);
        for (int at = 0; at < text.length(); at += 20) {
            call("feed", Checks.four(text, at), Checks.four(text, at + 4), Checks.four(text, at + 8),
                    Checks.four(text, at + 12), Checks.four(text, at + 16));
        }
        call("trim", had + text.length());
    }

    private String text(boolean withRegs) {
        StringBuilder text = new StringBuilder();
        int statements = 3 + random.nextInt(8);
        int names = 0;
        for (int s = 0; s < statements; s++) {
            int sort = names == 0 ? random.nextInt(2) : random.nextInt(6);
            if (sort == 0 || sort == 4) {
                int low = random.nextInt(4) - 1;
                text.append("ask ").append((char) ('a' + names)).append(low < 0 ? " - " : " ").append(Math.abs(low))
                        .append(' ').append(low + 1 + random.nextInt(random.nextBoolean() ? 3 : 9));
                if (names > 0 && random.nextInt(3) == 0) {
                    text.append(" if ").append(cond(names, withRegs));
                }
                names++;
            } else if (sort == 1) {
                text.append("let ").append((char) ('a' + names)).append(' ').append(expr(names, withRegs));
                if (random.nextInt(2) == 0) {
                    text.append("if ").append(cond(names, withRegs));
                }
                names++;
            } else {
                text.append(random.nextInt(3) == 0 ? "must " : "warn ").append(cond(names, withRegs));
            }
            text.append(random.nextInt(6) == 0 ? " ;\n" : ";");
        }
        return text.toString();
    }

    private String cond(int names, boolean withRegs) {
        String[] relations = {"<", "<=", "=", "<>", ">=", ">"};
        StringBuilder text = new StringBuilder();
        int parts = 1 + random.nextInt(3) / 2 + random.nextInt(4) / 3;
        for (int k = 0; k < parts; k++) {
            text.append(k == 0 ? "" : random.nextBoolean() ? "and " : "or ").append(expr(names, withRegs))
                    .append(relations[random.nextInt(6)]).append(expr(names, withRegs));
        }
        return text.toString();
    }

    private String expr(int names, boolean withRegs) {
        StringBuilder text = new StringBuilder();
        int parts = 1 + random.nextInt(3) / 2;
        for (int k = 0; k < parts; k++) {
            text.append(k == 0 ? "" : random.nextBoolean() ? "+" : "-");
            int sort = random.nextInt(12);
            if (names > 0 && sort < 7) {
                text.append((char) ('a' + random.nextInt(names)));
            } else if (withRegs && sort == 11 || sort == 10) {
                text.append("reg ").append(random.nextInt(6));
            } else if (sort == 9) {
                text.append("- ").append(random.nextInt(6));
            } else {
                text.append(random.nextInt(60) == 0 ? 999999 : random.nextInt(9));
            }
            text.append(' ');
        }
        return text.toString();
    }

    private String spoilt(String text) {
        String[] pieces = {"", ";", "+", "-", "<", "=", ">", "ask ", "let ", "must ", "if ", "and ", "or ", "reg ", "reg 6",
            "!", " ", "\t", "a", "zz", "abcdefghi", "1234567", "9", "\u00e4", "\0", "warn 1=1;"};
        StringBuilder spoilt = new StringBuilder(text);
        for (int k = random.nextInt(3); k >= 0; k--) {
            int at = random.nextInt(spoilt.length() + 1);
            int to = Math.min(spoilt.length(), at + random.nextInt(3));
            spoilt.replace(at, to, pieces[random.nextInt(pieces.length)]);
        }
        if (random.nextInt(4) == 0) {
            spoilt.setLength(random.nextInt(spoilt.length() + 1));
        }
        return spoilt.toString();
    }

    // ---- calls

    /** Of the model alone: the runs ask it where they stand. */
    private int told(String name, int... a) {
        String answer = answerOf(model, name, a);
        return answer.startsWith("java") ? 0 : Integer.parseInt(answer);
    }

    private int call(String name, int... a) {
        calls++;
        String want = answerOf(model, name, a);
        String got = answerOf(office, name, a);
        String row = name + Arrays.toString(a);
        told.append(row).append(" = ").append(want).append('\n');
        CHECKS.due(run, 0, () -> 0);
        if (!want.equals(got)) {
            CHECKS.report(run + " call " + calls, row + " answered " + got + ", due is " + want + "\n" + told);
            calls = MOST_CALLS;
        }
        return want.startsWith("java") ? PlainModel.NONE : Integer.parseInt(want);
    }

    /** The number that a call answers, or the name of what it throws. */
    private static String answerOf(Object object, String name, int[] a) {
        Method method = METHODS.computeIfAbsent(object.getClass().getName() + name + a.length,
                key -> methodOf(object.getClass(), name, a.length));
        Object[] given = new Object[a.length];
        for (int k = 0; k < a.length; k++) {
            given[k] = method.getParameterTypes()[k] == boolean.class ? (Object) (a[k] == 1) : (Object) a[k];
        }
        try {
            return String.valueOf(method.invoke(object, given));
        } catch (InvocationTargetException e) {
            return e.getCause().getClass().getName();
        } catch (IllegalAccessException e) {
            throw new AssertionError(e);
        }
    }

    private static Method methodOf(Class<?> of, String name, int arguments) {
        for (Method method : of.getDeclaredMethods()) {
            if (!Modifier.isPrivate(method.getModifiers()) && method.getName().equals(name)
                    && method.getParameterCount() == arguments) {
                return method;
            }
        }
        throw new AssertionError(of + " has no " + name);
    }
}
