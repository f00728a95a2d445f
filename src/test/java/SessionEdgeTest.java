/**
 * SESSIONS and promises 12 to 17: each sentence that names an edge has a method of its own here,
 * with the last input that is taken and the first that is refused.
 */
public final class SessionEdgeTest {
    private static final int NONE = CensusOffice.NONE;
    private static final int ABSENT = CensusOffice.ABSENT;
    private static final int LEAST = Integer.MIN_VALUE;
    private static final int MOST = Integer.MAX_VALUE;
    private static final Checks CHECKS = new Checks("SessionEdgeTest");

    public static void main(String[] args) {
        openTakesForms();
        openTakesUnits();
        openRefusesMergedOnes();
        sessionsAreSixty();
        closedSessionsCount();
        openRefusesInOrder();
        questionTakesSessions();
        questionAtTheEnd();
        answerFromLeastToGreatest();
        answerRefusesAtTheEnd();
        answerRefusesInOrder();
        answerRefusedByNumbers();
        answerRefusedByTheFirst();
        answerByWhatIsBehindAlone();
        everyWarnIsNoted();
        notesOfTheSameNumberAlone();
        notesSurviveWhatThrows();
        refusedAnswerKeepsAside();
        relationsOnBothSides();
        exprsUpToMillion();
        exprsOfRegisterUpToMillion();
        exprsWithSomethingAbsent();
        mustsBeyondMillionAreNotBroken();
        absentInMusts();
        regOfEachField();
        regOnTheDayOfOpening();
        regAsItWasThen();
        backTakesSessions();
        backWithNothingGiven();
        backFromTheEnd();
        backRefusesClosedOnes();
        walkComesNoFurther();
        condsThatHoldNoMore();
        asideInPlaceOfOne();
        asidesOfTen();
        asideIsNoItem();
        givenTakesSessions();
        givenTakesStatements();
        closeTakesSessions();
        closeAtTheEndAlone();
        closeRefusedChangesNothing();
        CHECKS.end();
    }

    private static void answers(CensusOffice x, int session, int... numbers) {
        for (int v : numbers) {
            x.answer(session, v);
        }
    }

    private static void items(String what, CensusOffice x, int session, int... want) {
        CHECKS.row(what, want, s -> x.given(session, s, false));
    }

    private static void aside(String what, CensusOffice x, int session, int... want) {
        CHECKS.row(what, want, s -> x.given(session, s, true));
    }

    // ---- 12: open

    private static void openTakesForms() {
        CensusOffice x = Checks.office("ask a 0 9;");
        Checks.form(x, "ask a 0 9;ask b 0 9;");
        CHECKS.refusedFor("12 no such form", Checks.INDEX, f -> x.open(f, 0), -1, 2, LEAST, MOST);
        CHECKS.row("12 the first and the last form", new int[] {0, 1}, f -> x.open(f, 0));
    }

    private static void openTakesUnits() {
        CensusOffice x = Checks.office("ask a 0 9;");
        x.unit();
        CHECKS.refusedFor("12 no such unit", Checks.INDEX, u -> x.open(0, u), -1, 2, LEAST, MOST);
        CHECKS.row("12 the first and the last unit", new int[] {0, 1}, u -> x.open(0, u));
    }

    private static void openRefusesMergedOnes() {
        CensusOffice x = Checks.office("ask a 0 9;");
        x.unit();
        CHECKS.due("12 ahead of the merge", 0, () -> x.open(0, 0));
        x.merge(0, 1);
        CHECKS.refused("12 the unit went into another one", Checks.STATE, () -> x.open(0, 0));
        CHECKS.due("12 refused: one session", 1, () -> x.told(4));
        CHECKS.due("12 the one that it went into", 1, () -> x.open(0, 1));
        CHECKS.due("14 a session goes on behind a merge", 0, () -> x.answer(0, 5));
        CHECKS.due("17 and is closed", 0, () -> x.close(0));
    }

    private static void sessionsAreSixty() {
        CensusOffice x = Checks.office("ask a 0 9;");
        for (int k = 0; k < 59; k++) {
            x.open(0, 0);
        }
        CHECKS.due("12 the 60th", 59, () -> x.open(0, 0));
        CHECKS.refused("12 no 61st", Checks.ROOM, () -> x.open(0, 0));
        CHECKS.due("12 refused: sixty", 60, () -> x.told(4));
        CHECKS.due("12 refused: all open", 60, () -> x.told(5));
        CHECKS.due("13 the last one", 0, () -> x.question(59));
        CHECKS.refused("13 none behind it", Checks.INDEX, () -> x.question(60));
    }

    private static void closedSessionsCount() {
        CensusOffice x = Checks.office("must 1=1;");
        for (int k = 0; k < 60; k++) {
            x.open(0, 0);
            x.close(k);
        }
        CHECKS.refused("12 closed ones, too", Checks.ROOM, () -> x.open(0, 0));
        CHECKS.due("39 sixty sessions", 60, () -> x.told(4));
        CHECKS.due("39 none is open", 0, () -> x.told(5));
        CHECKS.due("39 sixty records", 60, () -> x.told(6));
        CHECKS.due("18 the last record", ABSENT, () -> x.item(59, 0));
        CHECKS.refused("18 none behind it", Checks.INDEX, () -> x.item(60, 0));
    }

    private static void openRefusesInOrder() {
        CensusOffice x = Checks.office("must 1=1;");
        x.unit();
        x.merge(0, 1);
        CHECKS.refused("12 an index ahead of the state", Checks.INDEX, () -> x.open(1, 0));
        for (int k = 0; k < 60; k++) {
            x.open(0, 1);
        }
        CHECKS.refused("12 the state ahead of no room", Checks.STATE, () -> x.open(0, 0));
        CHECKS.allRefused("12 an index ahead of no room", Checks.INDEX, () -> x.open(1, 1), () -> x.open(0, 2));
        CHECKS.refused("12 no room", Checks.ROOM, () -> x.open(0, 1));
    }

    // ---- 13: question

    private static void questionTakesSessions() {
        CensusOffice x = Checks.office("ask a 0 9;ask b 0 9;");
        x.open(0, 0);
        x.open(0, 0);
        x.answer(1, 0);
        CHECKS.refusedFor("13 no such session", Checks.INDEX, s -> x.question(s), -1, 2, LEAST, MOST);
        CHECKS.row("13 the first and the last session", new int[] {0, 1}, s -> x.question(s));
    }

    private static void questionAtTheEnd() {
        CensusOffice x = Checks.office("let a 1;must a=2;ask b 0 9 if a=2;");
        x.open(0, 0);
        CHECKS.due("13 at its END at once", NONE, () -> x.question(0));
        x.close(0);
        CHECKS.due("13 closed", NONE, () -> x.question(0));
        CensusOffice y = Checks.office("must 1=1;must 1=1;must 1=1;ask b 5 5;");
        y.open(0, 0);
        CHECKS.due("13 the last statement", 3, () -> y.question(0));
        y.answer(0, 5);
        CHECKS.due("13 behind it", NONE, () -> y.question(0));
    }

    // ---- 14: answer

    private static void answerFromLeastToGreatest() {
        CensusOffice x = Checks.office("ask a -3 -1;ask b 0 0;ask c -999999 999999;ask d 5 9;");
        x.open(0, 0);
        x.open(0, 0);
        CHECKS.refusedFor("14 not -3 .. -1", Checks.ARGUMENT, v -> x.answer(0, v), -4, 0, ABSENT, LEAST, MOST);
        CHECKS.due("14 refused: a is asked", 0, () -> x.question(0));
        CHECKS.due("14 the least one", 0, () -> x.answer(0, -3));
        CHECKS.due("14 the greatest one", 0, () -> x.answer(1, -1));
        CHECKS.refusedFor("14 not 0 .. 0", Checks.ARGUMENT, v -> x.answer(0, v), -1, 1, ABSENT);
        CHECKS.row("14 the only one", new int[] {0, 0}, s -> x.answer(s, 0));
        CHECKS.refusedFor("14 not of six digits", Checks.ARGUMENT, v -> x.answer(0, v), -1000000, 1000000);
        CHECKS.due("14 the least of six digits", 0, () -> x.answer(0, -999999));
        CHECKS.due("14 the greatest of six digits", 0, () -> x.answer(1, 999999));
        CHECKS.refusedFor("14 not 5 .. 9", Checks.ARGUMENT, v -> x.answer(0, v), 4, 10);
        CHECKS.due("14 5", 0, () -> x.answer(0, 5));
        CHECKS.due("14 9", 0, () -> x.answer(1, 9));
        items("16 the least ones", x, 0, -3, 0, -999999, 5);
        items("16 the greatest ones", x, 1, -1, 0, 999999, 9);
    }

    private static void answerRefusesAtTheEnd() {
        CensusOffice x = Checks.office("ask a 0 9;");
        x.open(0, 0);
        x.answer(0, 4);
        CHECKS.refused("14 at its END", Checks.STATE, () -> x.answer(0, 4));
        CHECKS.due("14 refused: the answer stays", 4, () -> x.given(0, 0, false));
        x.close(0);
        CHECKS.refused("14 closed", Checks.STATE, () -> x.answer(0, 4));
    }

    private static void answerRefusesInOrder() {
        CensusOffice x = Checks.office("ask a 0 9;");
        x.open(0, 0);
        CHECKS.refusedFor("14 no such session, ahead of the number", Checks.INDEX, s -> x.answer(s, 10), -1, 1, LEAST, MOST);
        x.answer(0, 4);
        CHECKS.refused("14 its END, ahead of the number", Checks.STATE, () -> x.answer(0, 10));
        x.close(0);
        CHECKS.refused("14 closed, ahead of the number", Checks.STATE, () -> x.answer(0, -1));
    }

    private static void answerRefusedByNumbers() {
        CensusOffice x = Checks.office("ask a 0 9;must a>0;" + "must a>=0;".repeat(17) + "must a>1;");
        x.open(0, 0);
        CHECKS.due("14 by must 1", 101, () -> x.answer(0, 0));
        CHECKS.due("14 by must 19", 119, () -> x.answer(0, 1));
        CHECKS.due("14 by none", 0, () -> x.answer(0, 2));
        CensusOffice y = Checks.office("ask a 0 9;warn a>0;" + "warn a>=0;".repeat(17) + "warn a>1;");
        y.open(0, 0);
        CHECKS.due("14 by warn 1", 201, () -> y.answer(0, 0));
        CHECKS.due("14 by warn 19", 219, () -> y.answer(0, 1));
        CHECKS.due("14 by no warn", 0, () -> y.answer(0, 2));
    }

    private static void answerRefusedByTheFirst() {
        CensusOffice x = Checks.office("ask a 0 9;warn a>6;must a>2;warn a>5;must a>1;");
        x.open(0, 0);
        CHECKS.due("14 the first must, also behind a warn", 102, () -> x.answer(0, 1));
        CHECKS.due("14 the same must alone", 102, () -> x.answer(0, 2));
        CHECKS.due("14 the first warn", 201, () -> x.answer(0, 3));
        CHECKS.due("14 the next warn", 203, () -> x.answer(0, 3));
        CHECKS.due("14 both are NOTED", 0, () -> x.answer(0, 3));
    }

    private static void answerByWhatIsBehindAlone() {
        CensusOffice x = Checks.office("must reg 0=1;warn reg 0=1;ask a 0 9;ask b 0 9;must a=1;");
        x.tell(0, 0, 0, 2);
        x.open(0, 0);
        CHECKS.due("13 BROKEN ahead of the question", 2, () -> x.question(0));
        CHECKS.due("14 what is ahead refuses nothing", 0, () -> x.answer(0, 0));
        CHECKS.due("14 nor what the WALK has not come to", 3, () -> x.question(0));
        CHECKS.due("14 what is behind the last question", 104, () -> x.answer(0, 0));
        x.back(0);
        CHECKS.due("14 another a", 0, () -> x.answer(0, 1));
        CHECKS.due("14 then b is taken", 0, () -> x.answer(0, 0));
    }

    private static void everyWarnIsNoted() {
        CensusOffice x = Checks.office("ask a 0 9;" + "warn a>5;".repeat(19));
        x.open(0, 0);
        for (int k = 1; k <= 19; k++) {
            CHECKS.due("14 warn " + k, 200 + k, () -> x.answer(0, 5));
        }
        CHECKS.due("14 all are NOTED", 0, () -> x.answer(0, 5));
        CHECKS.due("13 at its END", NONE, () -> x.question(0));
    }

    private static void notesOfTheSameNumberAlone() {
        CensusOffice x = Checks.office("ask a -9 9;warn a>5;");
        x.open(0, 0);
        CHECKS.due("14 0 is NOTED", 201, () -> x.answer(0, 0));
        CHECKS.due("14 1 is another number", 201, () -> x.answer(0, 1));
        CHECKS.due("14 so is 0 then", 201, () -> x.answer(0, 0));
        CHECKS.due("14 and -1", 201, () -> x.answer(0, -1));
        CHECKS.due("14 -1 is NOTED", 0, () -> x.answer(0, -1));
        x.open(0, 0);
        CHECKS.due("14 not in another session", 201, () -> x.answer(1, -1));
    }

    private static void notesSurviveWhatThrows() {
        CensusOffice x = Checks.office("ask a 0 9;warn a>5;");
        x.open(0, 0);
        CHECKS.due("14 NOTED", 201, () -> x.answer(0, 3));
        CHECKS.refused("14 too small", Checks.ARGUMENT, () -> x.answer(0, -1));
        CHECKS.refused("14 too great", Checks.ARGUMENT, () -> x.answer(0, 10));
        CHECKS.refused("17 not at its END", Checks.STATE, () -> x.close(0));
        CHECKS.refused("15 no such session", Checks.INDEX, () -> x.back(1));
        CHECKS.refused("16 no such statement", Checks.INDEX, () -> x.given(0, 2, false));
        CHECKS.due("14 still NOTED", 0, () -> x.answer(0, 3));
    }

    private static void refusedAnswerKeepsAside() {
        CensusOffice x = Checks.office("ask a 0 9;must a>2;warn a>4;ask b 0 9;");
        x.open(0, 0);
        answers(x, 0, 7, 8);
        x.back(0);
        x.back(0);
        CHECKS.due("14 by a must", 101, () -> x.answer(0, 1));
        CHECKS.due("14 by a warn", 202, () -> x.answer(0, 3));
        items("14 REFUSED: nothing is GIVEN", x, 0, ABSENT, ABSENT, ABSENT, ABSENT);
        aside("14 REFUSED: what is ASIDE stays", x, 0, 7, ABSENT, ABSENT, 8);
        CHECKS.due("13 REFUSED: the same question", 0, () -> x.question(0));
        CHECKS.due("14 taken", 0, () -> x.answer(0, 3));
        items("14 taken: b came back", x, 0, 3, ABSENT, ABSENT, 8);
        aside("14 taken: nothing is ASIDE", x, 0, ABSENT, ABSENT, ABSENT, ABSENT);
    }

    // ---- exprs and conds

    private static void relationsOnBothSides() {
        CensusOffice x = Checks.office("ask a -1 1;let b 1 if a<0;let c 1 if a<=0;let d 1 if a=0;let e 1 if a<>0;"
                + "let f 1 if a>=0;let g 1 if a>0;");
        int[][] want = {{1, 1, ABSENT, 1, ABSENT, ABSENT}, {ABSENT, 1, 1, ABSENT, 1, ABSENT},
            {ABSENT, ABSENT, ABSENT, 1, 1, 1}};
        for (int session = 0; session < 3; session++) {
            int at = x.open(0, 0);
            x.answer(at, session - 1);
            CHECKS.row("16 relations with " + (session - 1), want[session], s -> x.given(at, s + 1, false));
        }
    }

    private static void exprsUpToMillion() {
        CensusOffice x = Checks.office("let a 999999+1;let b 999999+2;let c 0-999999-1;let d 0-999999-2;"
                + "let e 999999+999999-999998;let f 999999+999999-999997;let g a+a-a;let h c+c-c;let i b-2;let j d+2;"
                + "let k 1 if a=999999+1;let l 1 if b=b;let m 1 if b<>1;let n 1 if d<0;let o 1 if b>0;");
        x.open(0, 0);
        items("16 an expr is -1000000 .. 1000000, or ABSENT", x, 0, 1000000, ABSENT, -1000000, ABSENT, 1000000, ABSENT,
                1000000, -1000000, ABSENT, ABSENT, 1, ABSENT, ABSENT, ABSENT, ABSENT);
    }

    private static void exprsOfRegisterUpToMillion() {
        CensusOffice x = Checks.office("let a reg 0;let b reg 1;let c reg 0+1;let d reg 1-1;let e reg 0+reg 1;"
                + "let f reg 0-reg 1;let g reg 1-reg 0;let h reg 0-1+1;let i 0-reg 0;let j 0-reg 1;let k 0-reg 1+1;");
        x.tell(0, 0, 0, 1000000);
        x.tell(0, 1, 0, -1000000);
        x.open(0, 0);
        items("16 the register's ends", x, 0, 1000000, -1000000, ABSENT, ABSENT, 0, ABSENT, ABSENT, 1000000, -1000000,
                1000000, ABSENT);
    }

    private static void exprsWithSomethingAbsent() {
        CensusOffice x = Checks.office("let n reg 0;let a n+999999+999999;let b n-n;let c 999999+999999-n;let d 0-n;"
                + "let e n+n+n-n-n-n;let f reg 0-reg 1;let g reg 0+999999+999999+1;let h 1 if n=n;let i 1 if n<>0;"
                + "let j 1 if n-n=0;let k 1 if n<0 or n>=0;let l 1 if n=1 or 1=1;let m 1 if n=1 and 1=1;");
        x.open(0, 0);
        items("16 ABSENT if something in it is", x, 0, ABSENT, ABSENT, ABSENT, ABSENT, ABSENT, ABSENT, ABSENT, ABSENT,
                ABSENT, ABSENT, ABSENT, ABSENT, 1, ABSENT);
    }

    private static void mustsBeyondMillionAreNotBroken() {
        CensusOffice x = Checks.office("ask a 0 9;must a+999999<0;");
        x.open(0, 0);
        CHECKS.due("14 1000000 breaks it", 101, () -> x.answer(0, 1));
        CHECKS.due("14 1000001 is ABSENT", 0, () -> x.answer(0, 2));
        CensusOffice y = Checks.office("ask a 0 9;warn 0<0-999999-a;");
        y.open(0, 0);
        CHECKS.due("14 -1000000 breaks it", 201, () -> y.answer(0, 1));
        CHECKS.due("14 -1000001 is ABSENT", 0, () -> y.answer(0, 2));
    }

    private static void absentInMusts() {
        CensusOffice x = Checks.office("ask a 0 9;must a=1 or reg 0=1;must a=1 and reg 0=1;must reg 0=1 or a=1;"
                + "warn reg 0=reg 0;must a<9;ask b 0 9;");
        x.open(0, 0);
        CHECKS.due("14 none with something ABSENT is BROKEN", 0, () -> x.answer(0, 2));
        CHECKS.due("15 back", 0, () -> x.back(0));
        CHECKS.due("14 one without is", 105, () -> x.answer(0, 9));
        CensusOffice y = Checks.office("ask a 0 9;must a=1 or reg 0=1;ask b 0 9;");
        y.tell(0, 0, 0, 0);
        y.open(0, 0);
        CHECKS.due("14 with the register's number it is BROKEN", 101, () -> y.answer(0, 2));
    }

    private static void regOfEachField() {
        CensusOffice x = Checks.office("let a reg 0;let b reg 1;let c reg 2;let d reg 3;let e reg 4;let f reg 5;");
        for (int field = 0; field < 6; field++) {
            x.tell(0, field, 0, 10 + field);
        }
        x.open(0, 0);
        items("16 reg 0 .. 5", x, 0, 10, 11, 12, 13, 14, 15);
    }

    private static void regOnTheDayOfOpening() {
        CensusOffice x = Checks.office("let a reg 0;let b reg 1;");
        x.tick(1439);
        x.tell(0, 0, 1, 5);
        x.tell(0, 1, 0, 6);
        x.open(0, 0);
        x.tick(1);
        x.open(0, 0);
        items("16 from the next DAY on", x, 0, ABSENT, 6);
        items("16 on that DAY", x, 1, 5, 6);
    }

    private static void regAsItWasThen() {
        CensusOffice x = Checks.office("ask q 0 9;let a reg 0;");
        x.unit();
        x.tell(0, 0, 0, 5);
        x.tell(1, 0, 1, 7);
        x.tick(1440);
        x.open(0, 0);
        x.tell(0, 0, 1, 6);
        x.open(0, 0);
        x.merge(1, 0);
        x.open(0, 0);
        x.tell(0, 0, 1, 8);
        answers(x, 0, 1);
        answers(x, 1, 1);
        answers(x, 2, 1);
        items("16 ahead of the TELLING of that DAY", x, 0, 1, 5);
        items("16 behind it", x, 1, 1, 6);
        items("16 behind the MERGE, the TELLING told last", x, 2, 1, 6);
        CHECKS.due("6 the register goes on", 8, () -> x.value(0, 0, 1, 1));
    }

    // ---- 15: back

    private static void backTakesSessions() {
        CensusOffice x = Checks.office("ask a 0 9;");
        x.open(0, 0);
        x.open(0, 0);
        x.answer(1, 5);
        CHECKS.refusedFor("15 no such session", Checks.INDEX, s -> x.back(s), -1, 2, LEAST, MOST);
        CHECKS.due("15 the first one", NONE, () -> x.back(0));
        CHECKS.due("15 the last one", 0, () -> x.back(1));
    }

    private static void backWithNothingGiven() {
        CensusOffice x = Checks.office("let z 1;ask a 0 9;must a>3;");
        x.open(0, 0);
        CHECKS.due("15 nothing is GIVEN", NONE, () -> x.back(0));
        x.answer(0, 1);
        CHECKS.due("15 nor by a REFUSED answer", NONE, () -> x.back(0));
        aside("15 nothing is ASIDE", x, 0, ABSENT, ABSENT, ABSENT);
        x.answer(0, 4);
        CHECKS.due("15 one is GIVEN", 1, () -> x.back(0));
        CHECKS.due("15 no more", NONE, () -> x.back(0));
        aside("15 it stays ASIDE", x, 0, ABSENT, 4, ABSENT);
        CHECKS.due("13 it is asked", 1, () -> x.question(0));
    }

    private static void backFromTheEnd() {
        CensusOffice x = Checks.office("ask a 0 9;let b a;ask c 0 9;must 1=1;");
        x.open(0, 0);
        answers(x, 0, 1, 2);
        CHECKS.due("13 at its END", NONE, () -> x.question(0));
        CHECKS.due("15 the last question by number", 2, () -> x.back(0));
        CHECKS.refused("17 at its END no more", Checks.STATE, () -> x.close(0));
        CHECKS.due("15 the one ahead of it", 0, () -> x.back(0));
        aside("15 both are ASIDE", x, 0, 1, ABSENT, 2, ABSENT);
    }

    private static void backRefusesClosedOnes() {
        CensusOffice x = Checks.office("ask a 0 9;");
        x.open(0, 0);
        x.answer(0, 5);
        x.close(0);
        CHECKS.refused("15 closed", Checks.STATE, () -> x.back(0));
        items("15 refused: the answer stays", x, 0, 5);
        aside("15 refused: nothing is ASIDE", x, 0, ABSENT);
        CensusOffice y = Checks.office("must 1=1;");
        y.open(0, 0);
        CHECKS.due("15 nothing is GIVEN", NONE, () -> y.back(0));
        y.close(0);
        CHECKS.refused("15 closed, with nothing GIVEN", Checks.STATE, () -> y.back(0));
    }

    // ---- the WALK, what is ASIDE

    private static void walkComesNoFurther() {
        CensusOffice x = Checks.office("ask a 0 9;let b a+1;ask c 0 9;let d c+1;let e 7;ask f 0 9 if a=1;let g 8;");
        x.open(0, 0);
        items("16 ahead of all answers", x, 0, ABSENT, ABSENT, ABSENT, ABSENT, ABSENT, ABSENT, ABSENT);
        answers(x, 0, 1, 2, 3);
        items("16 at its END", x, 0, 1, 2, 2, 3, 7, 3, 8);
        x.back(0);
        items("16 ABSENT from f on", x, 0, 1, 2, 2, 3, 7, ABSENT, ABSENT);
        x.back(0);
        items("16 ABSENT from c on", x, 0, 1, 2, ABSENT, ABSENT, ABSENT, ABSENT, ABSENT);
        x.back(0);
        items("16 ABSENT from a on", x, 0, ABSENT, ABSENT, ABSENT, ABSENT, ABSENT, ABSENT, ABSENT);
    }

    private static void condsThatHoldNoMore() {
        CensusOffice x = Checks.office("ask a 0 9;ask b 0 9 if a=1;let c b+1;let d a if a=1;ask e 0 9 if b=2;");
        x.open(0, 0);
        answers(x, 0, 1, 2, 3);
        items("16 all are asked", x, 0, 1, 2, 3, 1, 3);
        x.back(0);
        x.back(0);
        x.back(0);
        CHECKS.due("14 another a", 0, () -> x.answer(0, 0));
        CHECKS.due("13 nothing more is asked", NONE, () -> x.question(0));
        items("16 without their conds", x, 0, 0, ABSENT, ABSENT, ABSENT, ABSENT);
        aside("16 they stay ASIDE", x, 0, ABSENT, 2, ABSENT, ABSENT, 3);
        CHECKS.due("15 a is the last that is GIVEN", 0, () -> x.back(0));
        CHECKS.due("14 the first a again", 0, () -> x.answer(0, 1));
        items("16 all came back", x, 0, 1, 2, 3, 1, 3);
        aside("16 nothing is ASIDE", x, 0, ABSENT, ABSENT, ABSENT, ABSENT, ABSENT);
    }

    private static void asideInPlaceOfOne() {
        CensusOffice x = Checks.office("ask a 0 9;ask b 0 9;must a<>b;");
        x.open(0, 0);
        answers(x, 0, 1, 2);
        x.back(0);
        aside("15 b is ASIDE", x, 0, ABSENT, 2, ABSENT);
        x.answer(0, 3);
        aside("14 what was ASIDE of it is gone", x, 0, ABSENT, ABSENT, ABSENT);
        x.back(0);
        aside("15 in place of the one that was", x, 0, ABSENT, 3, ABSENT);
        x.back(0);
        CHECKS.due("14 taken, though b would be REFUSED by it", 0, () -> x.answer(0, 3));
        CHECKS.due("13 b is asked", 1, () -> x.question(0));
        aside("14 b stays ASIDE", x, 0, ABSENT, 3, ABSENT);
        CHECKS.due("15 over it", 0, () -> x.back(0));
        aside("15 a is ASIDE, too", x, 0, 3, 3, ABSENT);
    }

    private static void asidesOfTen() {
        StringBuilder text = new StringBuilder();
        for (int k = 0; k < 10; k++) {
            text.append("let x").append((char) ('a' + k)).append(" 1;ask ").append((char) ('a' + k)).append(" 0 9;");
        }
        CensusOffice x = Checks.office(text.toString());
        x.open(0, 0);
        answers(x, 0, 0, 1, 2, 3, 4, 5, 6, 7, 8, 9);
        for (int k = 9; k >= 0; k--) {
            int want = 2 * k + 1;
            CHECKS.due("15 back to " + want, want, () -> x.back(0));
        }
        CHECKS.due("15 no more", NONE, () -> x.back(0));
        CHECKS.due("14 the first one anew", 0, () -> x.answer(0, 5));
        CHECKS.due("13 nine came back", NONE, () -> x.question(0));
        items("16 all ten", x, 0, 1, 5, 1, 1, 1, 2, 1, 3, 1, 4, 1, 5, 1, 6, 1, 7, 1, 8, 1, 9);
        CHECKS.row("16 nothing is ASIDE", new int[] {ABSENT, ABSENT, ABSENT}, k -> x.given(0, 2 * k + 1, true));
        CHECKS.due("16 nor of the last one", ABSENT, () -> x.given(0, 19, true));
    }

    private static void asideIsNoItem() {
        CensusOffice x = Checks.office("ask a 0 9;ask b 0 9 if a=1;");
        x.open(0, 0);
        answers(x, 0, 1, 2);
        x.back(0);
        x.back(0);
        x.answer(0, 0);
        CHECKS.due("17 with b ASIDE", 0, () -> x.close(0));
        CHECKS.due("18 b is ABSENT in the record", ABSENT, () -> x.item(0, 1));
        CHECKS.due("16 the session has it ASIDE", 2, () -> x.given(0, 1, true));
    }

    // ---- 16: given

    private static void givenTakesSessions() {
        CensusOffice x = Checks.office("ask a 0 9;");
        x.open(0, 0);
        x.open(0, 0);
        x.answer(1, 7);
        CHECKS.refusedFor("16 no such session", Checks.INDEX, s -> x.given(s, 0, false), -1, 2, LEAST, MOST);
        CHECKS.row("16 the first and the last one", new int[] {ABSENT, 7}, s -> x.given(s, 0, false));
    }

    private static void givenTakesStatements() {
        CensusOffice x = Checks.office("must 1=1;".repeat(19) + "ask a 0 9;");
        Checks.form(x, "let a 1;");
        x.open(0, 0);
        x.open(1, 0);
        x.answer(0, 7);
        CHECKS.refusedFor("16 no such statement", Checks.INDEX, s -> x.given(0, s, false), -1, 20, LEAST, MOST);
        CHECKS.refusedFor("16 no such statement, aside", Checks.INDEX, s -> x.given(0, s, true), -1, 20, LEAST, MOST);
        CHECKS.refused("16 no second one of one", Checks.INDEX, () -> x.given(1, 1, false));
        CHECKS.due("16 a must is ABSENT", ABSENT, () -> x.given(0, 0, false));
        CHECKS.due("16 the last of twenty", 7, () -> x.given(0, 19, false));
        x.back(0);
        CHECKS.due("16 the last of twenty, aside", 7, () -> x.given(0, 19, true));
        CHECKS.due("16 a let", 1, () -> x.given(1, 0, false));
        CHECKS.due("16 a let is never ASIDE", ABSENT, () -> x.given(1, 0, true));
    }

    // ---- 17: close

    private static void closeTakesSessions() {
        CensusOffice x = Checks.office("ask a 0 9;");
        x.open(0, 0);
        x.open(0, 0);
        answers(x, 0, 1);
        answers(x, 1, 2);
        CHECKS.refusedFor("17 no such session", Checks.INDEX, s -> x.close(s), -1, 2, LEAST, MOST);
        CHECKS.due("17 the last one", 0, () -> x.close(1));
        CHECKS.due("17 the first one", 1, () -> x.close(0));
        CHECKS.row("18 records by their closing", new int[] {2, 1}, k -> x.item(k, 0));
    }

    private static void closeAtTheEndAlone() {
        CensusOffice x = Checks.office("ask a 0 9;ask b 0 9;");
        x.open(0, 0);
        CHECKS.refused("17 ahead of all answers", Checks.STATE, () -> x.close(0));
        x.answer(0, 1);
        CHECKS.refused("17 ahead of the last answer", Checks.STATE, () -> x.close(0));
        x.answer(0, 2);
        CHECKS.due("17 at its END", 0, () -> x.close(0));
        CHECKS.refused("17 closed", Checks.STATE, () -> x.close(0));
        CHECKS.due("17 refused: one record", 1, () -> x.told(6));
    }

    private static void closeRefusedChangesNothing() {
        CensusOffice x = Checks.office("ask a 0 9;ask b 0 9;");
        x.open(0, 0);
        x.answer(0, 1);
        CHECKS.refused("17 not at its END", Checks.STATE, () -> x.close(0));
        CHECKS.due("17 refused: it is open", 1, () -> x.told(5));
        CHECKS.due("17 refused: no record", 0, () -> x.told(6));
        CHECKS.due("17 refused: the question", 1, () -> x.question(0));
        CHECKS.due("17 refused: it goes on", 0, () -> x.answer(0, 2));
        CHECKS.due("17 the first record", 0, () -> x.close(0));
    }
}
