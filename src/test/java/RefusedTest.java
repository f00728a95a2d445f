import java.util.ArrayList;
import java.util.List;

/**
 * A call that throws changes nothing: a run of calls answers the same when a refused call stands
 * behind each of its calls, and so does all that can be asked and done behind the run. Each refused
 * call has runs of its own, none of more than 512 calls.
 */
public final class RefusedTest {
    private interface Step {
        int on(CensusOffice x);
    }

    private static final int NONE = CensusOffice.NONE;
    private static final String GRID = "ask r 0 1;ask c 0 1;ask m 0 9;warn m>2;must m<9;let t m+reg 0;";
    private static final Checks CHECKS = new Checks("RefusedTest");
    private static final List<Step> RUN = new ArrayList<>();
    private static final List<Step> SHOWN = new ArrayList<>();
    private static final List<Integer> RUN_DUE = new ArrayList<>();
    private static final List<Integer> SHOWN_DUE = new ArrayList<>();

    public static void main(String[] args) {
        runOfRegister();
        runOfForms();
        runOfSessions();
        runOfEdits();
        runOfSamplesAndTables();
        runOfReleases();
        runToItsEnd();
        showRegisterAndForms();
        showSessionsAndRecords();
        showSamplesAndTables();
        showWhatGoesOn();
        answersOfTheRunAlone();
        refusedByIndex();
        refusedByIndexOfTables();
        refusedByArgument();
        refusedByArgumentOfTables();
        refusedByState();
        refusedAtTheEndAlone();
        refusedWithoutRoom();
        CHECKS.end();
    }

    private static void run(Step... steps) {
        RUN.addAll(List.of(steps));
    }

    private static void show(Step... steps) {
        SHOWN.addAll(List.of(steps));
    }

    // ---- the run

    private static void runOfRegister() {
        run(x -> x.unit(), x -> x.unit(), x -> x.unit(), x -> x.tell(0, 0, 0, 5), x -> x.tell(1, 0, 0, 6),
                x -> x.tell(2, 0, 0, 7), x -> x.tell(0, 1, 0, 1), x -> x.tell(1, 1, 0, 1), x -> x.tell(2, 1, 0, 2),
                x -> x.tick(1440), x -> x.tell(0, 0, 1, 8));
    }

    private static void write(String text) {
        for (int at = 0; at < text.length(); at += 20) {
            int from = at;
            run(x -> x.feed(Checks.four(text, from), Checks.four(text, from + 4), Checks.four(text, from + 8),
                    Checks.four(text, from + 12), Checks.four(text, from + 16)));
        }
        run(x -> x.trim(text.length()));
    }

    private static void runOfForms() {
        write(GRID);
        run(x -> x.form());
        write("ask z 0 9;");
        run(x -> x.form(), x -> x.cost(0, 2, 3), x -> x.rule(1, 0, NONE, -1));
    }

    private static void runOfSessions() {
        run(x -> x.open(0, 0), x -> x.answer(0, 1), x -> x.answer(0, 0), x -> x.answer(0, 1), x -> x.answer(0, 1),
                x -> x.back(0), x -> x.given(0, 2, true), x -> x.answer(0, 1), x -> x.answer(0, 1), x -> x.close(0));
        run(x -> x.open(0, 1), x -> x.answer(1, 0), x -> x.answer(1, 1), x -> x.answer(1, 8), x -> x.close(1));
        run(x -> x.open(0, 2), x -> x.answer(2, 0), x -> x.answer(2, 0), x -> x.answer(2, 5), x -> x.close(2));
        run(x -> x.open(1, 0), x -> x.answer(3, 5), x -> x.close(3));
    }

    private static void runOfEdits() {
        run(x -> x.rule(0, 2, NONE, 6), x -> x.least(1, true), x -> x.impute(1, 1), x -> x.item(1, 2), x -> x.mark(1, 2));
    }

    private static void runOfSamplesAndTables() {
        run(x -> x.sample(0, 5, 9, 1, 2, 77), x -> x.sample(0, 5, 9, 1, 1, 3), x -> x.table(0, 0, 1, 2, NONE),
                x -> x.table(0, 0, 1, NONE, 0), x -> x.secrecy(0, 2, 100, 0), x -> x.round(0, 10));
    }

    private static void runOfReleases() {
        run(x -> x.person(1), x -> x.person(2), x -> x.person(4), x -> x.person(0), x -> x.release(0, 0, 2000),
                x -> x.look(1, 0, 0, 0), x -> x.look(0, 0, 2, 2), x -> x.tick(560), x -> x.look(2, 0, 0, 0));
    }

    /** At its end a warn is NOTED, an answer is ASIDE, a unit is merged, and the tape has a text. */
    private static void runToItsEnd() {
        run(x -> x.open(0, 0), x -> x.answer(4, 1), x -> x.answer(4, 1), x -> x.answer(4, 5), x -> x.back(4),
                x -> x.merge(2, 1));
        write("must 1=1;");
        run(x -> x.answer(4, 2));
    }

    // ---- what is shown behind it

    private static void showRegisterAndForms() {
        for (int what = 0; what < 15; what++) {
            int asked = what;
            show(x -> x.told(asked));
        }
        for (int unit = 0; unit < 3; unit++) {
            int at = unit;
            show(x -> x.last(at), x -> x.value(at, 0, 9, 9), x -> x.value(at, 1, 0, 0));
        }
        for (int k = 0; k < 24; k++) {
            int at = k;
            show(x -> x.statement(0, at / 4, at % 4));
        }
    }

    private static void showSessionsAndRecords() {
        for (int session = 0; session < 5; session++) {
            int at = session;
            show(x -> x.question(at));
        }
        for (int s = 0; s < 6; s++) {
            int at = s;
            show(x -> x.given(4, at, false), x -> x.given(4, at, true), x -> x.item(0, at), x -> x.item(1, at),
                    x -> x.mark(0, at), x -> x.mark(1, at));
        }
        for (int record = 0; record < 4; record++) {
            int at = record;
            show(x -> x.broken(at, NONE), x -> x.broken(at, 0), x -> x.least(at, true), x -> x.least(at, false));
        }
    }

    private static void showSamplesAndTables() {
        show(x -> x.drawn(0, 0), x -> x.drawn(0, 1), x -> x.drawn(1, 0), x -> x.chance(0, 0, false),
                x -> x.chance(0, 0, true), x -> x.chance(1, 2, true), x -> x.overlap(0, 1));
        for (int k = 0; k < 9; k++) {
            int at = k;
            show(x -> x.cell(0, at / 3, at % 3, 0), x -> x.cell(0, at / 3, at % 3, 1), x -> x.cell(0, at / 3, at % 3, 3),
                    x -> x.cell(1, at / 3, at % 3, 2));
        }
        for (int k = 0; k < 4; k++) {
            int at = k;
            show(x -> x.secret(0, at / 2, at % 2), x -> x.interval(0, at / 2, at % 2, false),
                    x -> x.interval(0, at / 2, at % 2, true));
        }
        for (int k = 0; k < 18; k++) {
            int at = k;
            show(x -> x.looked(at / 6, at % 6));
        }
    }

    /** What later calls show: the NOTE, the tape's bytes, the next numbers of all kinds. */
    private static void showWhatGoesOn() {
        show(x -> x.answer(4, 2), x -> x.close(4), x -> x.form(), x -> x.statement(2, 0, 0), x -> x.unit(),
                x -> x.tell(3, 0, 0, 7), x -> x.open(0, 3), x -> x.question(5), x -> x.rule(0, 2, NONE, 1),
                x -> x.broken(4, NONE), x -> x.impute(4, 0), x -> x.item(4, 2), x -> x.sample(0, 0, 9, 0, 3, 1),
                x -> x.table(0, 0, 1, 2, NONE), x -> x.cell(2, 2, 2, 0), x -> x.person(7), x -> x.release(0, 1, 2000),
                x -> x.look(1, 0, 0, 0), x -> x.look(4, 0, 0, 0), x -> x.look(1, 1, 2, 2), x -> x.told(11), x -> x.tick(1));
    }

    // ---- the runs

    private static void answersOfTheRunAlone() {
        CensusOffice x = new CensusOffice();
        for (Step step : RUN) {
            RUN_DUE.add(step.on(x));
        }
        for (Step step : SHOWN) {
            SHOWN_DUE.add(step.on(x));
        }
        CHECKS.due("14 the run ends with a NOTE", 203, () -> RUN_DUE.get(RUN_DUE.size() - 1));
        CHECKS.due("no run is of more than 512 calls", 0, () -> RUN.size() * 2 + SHOWN.size() + 1 <= 512 ? 0 : 1);
    }

    private static boolean isRefused(CensusOffice x, Step refused) {
        try {
            refused.on(x);
            return false;
        } catch (IndexOutOfBoundsException | IllegalArgumentException | IllegalStateException
                | UnsupportedOperationException e) {
            return true;
        }
    }

    private static void sameAgain(String what, List<Step> steps, List<Integer> due, CensusOffice x) {
        for (int k = 0; k < steps.size(); k++) {
            Step step = steps.get(k);
            CHECKS.due(what + ", call " + k, due.get(k), () -> step.on(x));
        }
    }

    /** Refused in any state of the run, at its end by the exception that is told. */
    private static void refused(String what, Class<? extends RuntimeException> want, Step... calls) {
        for (int k = 0; k < calls.length; k++) {
            Step call = calls[k];
            String named = what + " " + k;
            CensusOffice x = new CensusOffice();
            for (int at = 0; at < RUN.size(); at++) {
                Step step = RUN.get(at);
                CHECKS.due(named + ", run " + at, RUN_DUE.get(at), () -> step.on(x));
                CHECKS.due(named + ", refused behind " + at, 1, () -> isRefused(x, call) ? 1 : 0);
            }
            CHECKS.refused(named + ", at the end", want, () -> call.on(x));
            sameAgain(named + ", shown", SHOWN, SHOWN_DUE, x);
        }
    }

    private static void refusedAtTheEnd(String what, Class<? extends RuntimeException> want, Step... calls) {
        for (int k = 0; k < calls.length; k++) {
            Step call = calls[k];
            String named = what + " " + k;
            CensusOffice x = new CensusOffice();
            sameAgain(named + ", run", RUN, RUN_DUE, x);
            CHECKS.refused(named + ", at the end", want, () -> call.on(x));
            CHECKS.refused(named + ", once more", want, () -> call.on(x));
            sameAgain(named + ", shown", SHOWN, SHOWN_DUE, x);
        }
    }

    // ---- the refused calls

    private static void refusedByIndex() {
        refused("4 tell", Checks.INDEX, x -> x.tell(-1, 0, 0, 0), x -> x.tell(3, 0, 0, 0), x -> x.tell(0, -1, 0, 0),
                x -> x.tell(0, 6, 0, 0));
        refused("5 merge", Checks.INDEX, x -> x.merge(3, 0), x -> x.merge(0, 3), x -> x.merge(-1, 0));
        refused("6 value", Checks.INDEX, x -> x.value(3, 0, 0, 0), x -> x.value(0, 6, 0, 0));
        refused("7 last", Checks.INDEX, x -> x.last(3), x -> x.last(-1));
        refused("11 statement", Checks.INDEX, x -> x.statement(2, 0, 0), x -> x.statement(0, 6, 0));
        refused("12 open", Checks.INDEX, x -> x.open(2, 0), x -> x.open(0, 3), x -> x.open(-1, 0));
        refused("13 question", Checks.INDEX, x -> x.question(5), x -> x.question(-1));
        refused("14 answer", Checks.INDEX, x -> x.answer(5, 0), x -> x.answer(-1, 0));
        refused("15 back", Checks.INDEX, x -> x.back(5), x -> x.back(-1));
        refused("16 given", Checks.INDEX, x -> x.given(5, 0, true), x -> x.given(4, 6, false));
        refused("17 close", Checks.INDEX, x -> x.close(5), x -> x.close(-1));
        refused("18 item", Checks.INDEX, x -> x.item(4, 0), x -> x.item(0, 6));
        refused("19 mark", Checks.INDEX, x -> x.mark(4, 0), x -> x.mark(0, 6));
        refused("20 rule", Checks.INDEX, x -> x.rule(2, 0, NONE, 0), x -> x.rule(0, 6, 0, 0), x -> x.rule(0, 0, -2, 0));
        refused("21 cost", Checks.INDEX, x -> x.cost(2, 0, 5), x -> x.cost(0, 6, 5));
        refused("22 broken", Checks.INDEX, x -> x.broken(4, 0), x -> x.broken(0, -2));
        refused("23 least", Checks.INDEX, x -> x.least(4, true), x -> x.least(-1, false));
        refused("24 impute", Checks.INDEX, x -> x.impute(4, 0), x -> x.impute(-1, 1));
    }

    private static void refusedByIndexOfTables() {
        refused("25 sample", Checks.INDEX, x -> x.sample(6, 0, 9, 1, 0, 0), x -> x.sample(0, 0, 9, -1, 0, 0));
        refused("26 drawn", Checks.INDEX, x -> x.drawn(2, 0), x -> x.drawn(0, -1));
        refused("27 chance", Checks.INDEX, x -> x.chance(2, 0, true), x -> x.chance(0, 3, true));
        refused("28 overlap", Checks.INDEX, x -> x.overlap(0, 2), x -> x.overlap(-1, 0));
        refused("29 table", Checks.INDEX, x -> x.table(2, 0, 1, NONE, NONE), x -> x.table(0, 6, 1, NONE, NONE),
                x -> x.table(0, 0, 6, NONE, NONE), x -> x.table(0, 0, 1, 6, NONE), x -> x.table(0, 0, 1, NONE, 2));
        refused("30 cell", Checks.INDEX, x -> x.cell(2, 0, 0, 0), x -> x.cell(0, 3, 0, 0), x -> x.cell(0, 0, 3, 0));
        refused("31 secrecy", Checks.INDEX, x -> x.secrecy(2, 0, 0, 0), x -> x.secrecy(-1, 0, 0, 0));
        refused("32 secret", Checks.INDEX, x -> x.secret(2, 0, 0), x -> x.secret(0, 2, 0), x -> x.secret(0, 0, 2));
        refused("33 interval", Checks.INDEX, x -> x.interval(2, 0, 0, true), x -> x.interval(0, 2, 0, true));
        refused("34 round", Checks.INDEX, x -> x.round(2, 5), x -> x.round(-1, 5));
        refused("36 release", Checks.INDEX, x -> x.release(4, 0, 5000), x -> x.release(0, 2, 5000));
        refused("37 look", Checks.INDEX, x -> x.look(4, 0, 0, 0), x -> x.look(0, 1, 0, 0), x -> x.look(0, 0, 3, 0),
                x -> x.look(0, 0, 0, 3));
        refused("38 looked", Checks.INDEX, x -> x.looked(3, 0), x -> x.looked(-1, 0));
    }

    private static void refusedByArgument() {
        refused("2 tick", Checks.ARGUMENT, x -> x.tick(-1), x -> x.tick(1000001));
        refused("4 tell", Checks.ARGUMENT, x -> x.tell(0, 0, -1, 0), x -> x.tell(0, 0, 100001, 0),
                x -> x.tell(0, 0, 0, 1000001), x -> x.tell(0, 0, 0, -1000001));
        refused("6 value", Checks.ARGUMENT, x -> x.value(0, 0, -1, 0), x -> x.value(0, 0, 0, -1));
        refused("9 trim", Checks.ARGUMENT, x -> x.trim(-1), x -> x.trim(1201));
        refused("11 statement", Checks.ARGUMENT, x -> x.statement(0, 0, 4), x -> x.statement(0, 0, -1));
        refused("14 answer", Checks.ARGUMENT, x -> x.answer(4, -1), x -> x.answer(4, 10));
        refused("20 rule", Checks.ARGUMENT, x -> x.rule(0, 5, 0, 0), x -> x.rule(0, 0, 3, 0), x -> x.rule(0, 0, 0, 0),
                x -> x.rule(0, NONE, NONE, 0), x -> x.rule(0, 0, 1, 2000001), x -> x.rule(0, 0, 1, -2000001));
        refused("21 cost", Checks.ARGUMENT, x -> x.cost(0, 0, 0), x -> x.cost(0, 0, 101), x -> x.cost(0, 5, 5));
        refused("24 impute", Checks.ARGUMENT, x -> x.impute(1, 2), x -> x.impute(1, -1));
    }

    private static void refusedByArgumentOfTables() {
        refused("25 sample", Checks.ARGUMENT, x -> x.sample(0, 0, 9, 1, -1, 0), x -> x.sample(0, 0, 9, 1, 4, 0));
        refused("29 table", Checks.ARGUMENT, x -> x.table(0, 0, 0, NONE, NONE), x -> x.table(0, 5, 1, NONE, NONE),
                x -> x.table(0, 0, 3, NONE, NONE), x -> x.table(0, 0, 1, 4, NONE), x -> x.table(0, 2, 1, NONE, NONE),
                x -> x.table(0, 0, 2, NONE, NONE));
        refused("30 cell", Checks.ARGUMENT, x -> x.cell(0, 0, 0, 4), x -> x.cell(0, 2, 2, -1));
        refused("31 secrecy", Checks.ARGUMENT, x -> x.secrecy(0, -1, 0, 0), x -> x.secrecy(0, 101, 0, 0),
                x -> x.secrecy(0, 0, -1, 0), x -> x.secrecy(0, 0, 101, 0), x -> x.secrecy(0, 0, 0, -1),
                x -> x.secrecy(0, 0, 0, 1000001));
        refused("34 round", Checks.ARGUMENT, x -> x.round(0, 0), x -> x.round(0, 1001));
        refused("35 person", Checks.ARGUMENT, x -> x.person(-1), x -> x.person(8));
        refused("36 release", Checks.ARGUMENT, x -> x.release(0, 0, 1439), x -> x.release(0, 0, -1));
        refused("38 looked", Checks.ARGUMENT, x -> x.looked(0, -1), x -> x.looked(0, 6));
        refused("39 told", Checks.ARGUMENT, x -> x.told(-1), x -> x.told(15));
    }

    private static void refusedByState() {
        refused("5 merge", Checks.STATE, x -> x.merge(0, 0), x -> x.merge(1, 1));
        refused("14 answer", Checks.STATE, x -> x.answer(0, 10), x -> x.answer(3, -1));
        refused("24 impute", Checks.STATE, x -> x.impute(3, 0), x -> x.impute(3, 1));
        refused("36 release", Checks.STATE, x -> x.release(1, 0, 5000), x -> x.release(2, 0, 5000),
                x -> x.release(3, 0, 0));
    }

    private static void refusedAtTheEndAlone() {
        refusedAtTheEnd("4 tell", Checks.STATE, x -> x.tell(2, 0, 0, 0));
        refusedAtTheEnd("5 merge", Checks.STATE, x -> x.merge(2, 0), x -> x.merge(1, 2));
        refusedAtTheEnd("9 trim", Checks.ARGUMENT, x -> x.trim(10));
        refusedAtTheEnd("12 open", Checks.STATE, x -> x.open(0, 2));
        refusedAtTheEnd("14 answer", Checks.STATE, x -> x.answer(0, 1), x -> x.answer(3, 5));
        refusedAtTheEnd("15 back", Checks.STATE, x -> x.back(0), x -> x.back(3));
        refusedAtTheEnd("17 close", Checks.STATE, x -> x.close(4), x -> x.close(0));
        refusedAtTheEnd("25 sample", Checks.ARGUMENT, x -> x.sample(0, 0, 9, 1, 3, 0));
        refusedAtTheEnd("36 release", Checks.ARGUMENT, x -> x.release(0, 0, 1999));
    }

    /** All that 512 calls can fill together; looks and tellings are filled in tests of their own. */
    private static CensusOffice full() {
        CensusOffice x = new CensusOffice();
        for (int k = 0; k < 100; k++) {
            x.unit();
        }
        for (int k = 0; k < 6; k++) {
            x.feed(0x61736B20, 0x61203020, 0x313B6173, 0x6B206220, 0x3020313B);
            x.form();
        }
        for (int k = 0; k < 60; k++) {
            x.open(k % 6, k);
            x.feed(0x6D757374, 0x20313D31, 0x3B202020, 0x20202020, 0x20202020);
        }
        for (int k = 0; k < 16; k++) {
            x.rule(5, 0, 1, k);
        }
        for (int k = 0; k < 12; k++) {
            x.sample(0, 0, 0, 0, 0, k);
            x.table(k % 6, 0, 1, NONE, NONE);
            x.person(1);
            x.release(k, k, 0);
        }
        return x;
    }

    private static void refusedWithoutRoom() {
        int[] counts = {100, 0, 0, 6, 60, 60, 0, 12, 12, 12, 12, 0, 1200, 0, 0};
        CensusOffice x = full();
        CHECKS.row("full", counts, what -> x.told(what));
        List<Step> calls = List.of(o -> o.unit(), o -> o.feed(0, 0, 0, 0, 0), o -> o.form(), o -> o.open(0, 99),
                o -> o.rule(5, 0, NONE, 0), o -> o.sample(0, 0, 0, 0, 0, 0), o -> o.table(5, 1, 0, NONE, NONE),
                o -> o.person(0), o -> o.release(11, 11, 5));
        for (int k = 0; k < calls.size(); k++) {
            Step call = calls.get(k);
            CHECKS.refused("no room, call " + k, Checks.ROOM, () -> call.on(x));
            CHECKS.row("no room, call " + k + ": as many as before", counts, what -> x.told(what));
        }
        CHECKS.due("all the others go on: a rule of another form", 0, () -> x.rule(4, 0, 1, 0));
        CHECKS.due("an answer", 0, () -> x.answer(59, 1));
        CHECKS.due("a telling", 1, () -> x.tell(99, 5, 0, 1));
        CHECKS.due("a look", 0, () -> x.look(11, 11, 2, 2));
        CHECKS.due("the tape", 1200, () -> x.trim(0));
    }
}
