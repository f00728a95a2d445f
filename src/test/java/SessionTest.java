/** Promises 12 to 17: sessions, their walk, answers, notes, going back, what is aside, closing. */
public final class SessionTest {
    private static final int NONE = CensusOffice.NONE;
    private static final int ABSENT = CensusOffice.ABSENT;
    private static final Checks CHECKS = new Checks("SessionTest");

    public static void main(String[] args) {
        opening();
        walking();
        exprs();
        absence();
        registerAsItWas();
        musts();
        warns();
        mustsFirst();
        notesGone();
        goingBack();
        asides();
        asidesStopped();
        ends();
        CHECKS.end();
    }

    private static void opening() {
        CensusOffice x = Checks.office("ask a 0 9;");
        x.unit();
        x.merge(0, 1);
        CHECKS.refused("12 form", Checks.INDEX, () -> x.open(1, 0));
        CHECKS.refused("12 form below", Checks.INDEX, () -> x.open(-1, 1));
        CHECKS.refused("12 unit", Checks.INDEX, () -> x.open(0, 2));
        CHECKS.refused("12 unit below", Checks.INDEX, () -> x.open(0, -1));
        CHECKS.refused("12 merged", Checks.STATE, () -> x.open(0, 0));
        for (int k = 0; k < 60; k++) {
            int want = k;
            CHECKS.due("12 open", want, () -> x.open(0, 1));
        }
        CHECKS.refused("12 no room", Checks.ROOM, () -> x.open(0, 1));
        CHECKS.refused("12 merged first", Checks.STATE, () -> x.open(0, 0));
        x.answer(0, 1);
        x.close(0);
        CHECKS.refused("12 closed ones, too", Checks.ROOM, () -> x.open(0, 1));
        CHECKS.due("12 sixty", 60, () -> x.told(4));
        CHECKS.due("12 open ones", 59, () -> x.told(5));
        CHECKS.due("12 records", 1, () -> x.told(6));
        CHECKS.refused("13 session", Checks.INDEX, () -> x.question(60));
        CHECKS.refused("13 below", Checks.INDEX, () -> x.question(-1));
    }

    private static void walking() {
        CensusOffice x = Checks.office("let z 3;ask a 0 9;ask b 0 9 if a>4;let c a+b;let d 7 if a=1;ask e 5 6;");
        x.open(0, 0);
        CHECKS.due("13 the first question", 1, () -> x.question(0));
        CHECKS.due("16 a let ahead of it", 3, () -> x.given(0, 0, false));
        CHECKS.due("16 the question", ABSENT, () -> x.given(0, 1, false));
        CHECKS.due("16 behind it", ABSENT, () -> x.given(0, 4, false));
        CHECKS.refused("14 below the least", Checks.ARGUMENT, () -> x.answer(0, -1));
        CHECKS.refused("14 above the greatest", Checks.ARGUMENT, () -> x.answer(0, 10));
        CHECKS.due("14 an answer", 0, () -> x.answer(0, 1));
        CHECKS.due("13 without b", 5, () -> x.question(0));
        CHECKS.due("16 a", 1, () -> x.given(0, 1, false));
        CHECKS.due("16 b is not asked", ABSENT, () -> x.given(0, 2, false));
        CHECKS.due("16 c by something absent", ABSENT, () -> x.given(0, 3, false));
        CHECKS.due("16 d by its cond", 7, () -> x.given(0, 4, false));
        x.open(0, 0);
        CHECKS.due("14 another session", 0, () -> x.answer(1, 9));
        CHECKS.due("13 with b", 2, () -> x.question(1));
        x.answer(1, 8);
        CHECKS.due("16 c", 17, () -> x.given(1, 3, false));
        CHECKS.due("16 d without its cond", ABSENT, () -> x.given(1, 4, false));
        CHECKS.due("13 e", 5, () -> x.question(1));
        CHECKS.refused("16 session", Checks.INDEX, () -> x.given(2, 0, false));
        CHECKS.refused("16 statement", Checks.INDEX, () -> x.given(0, 6, true));
        CHECKS.refused("16 statement below", Checks.INDEX, () -> x.given(0, -1, false));
        CHECKS.refused("14 session", Checks.INDEX, () -> x.answer(2, 99));
    }

    private static void exprs() {
        CensusOffice x = Checks.office("let a 5 - 3 - 1;let b 5 - - 3 + a;let c 0-a-b;"
                + "let d 999999+1;let e d+1;let f d+1-1;let g 0-d;let h g-1;let i a+a-a+0-5;");
        x.open(0, 0);
        int[] want = {1, 9, -10, 1000000, ABSENT, 1000000, -1000000, ABSENT, -4};
        for (int s = 0; s < want.length; s++) {
            int statement = s;
            CHECKS.due("16 expr " + s, want[s], () -> x.given(0, statement, false));
        }
        CensusOffice y = Checks.office("let a 1 if 1<2 and 2<=2 and 3=3;let b 1 if 1>2 or 2>=3 or 3<>3;"
                + "let c 1 if 1=2 and 1=1 or 2=2;let d 1 if 1=1 or 1=2 and 1=2;let e 1 if 1=2 or 2=2 and 2=3;"
                + "let f 1 if 2<>3 and 3>2 and 3>=2;let g 1 if 2<2 or 2>2;");
        y.open(0, 0);
        int[] holds = {1, ABSENT, 1, 1, ABSENT, 1, ABSENT};
        for (int s = 0; s < holds.length; s++) {
            int statement = s;
            CHECKS.due("16 cond " + s, holds[s], () -> y.given(0, statement, false));
        }
    }

    private static void absence() {
        CensusOffice x = Checks.office("ask a 0 9;let n reg 0;let b 1 if n=n;let c 1 if n<>1;let d 1 if n=1 or 1=1;"
                + "let e 1 if 999999+2 > 1;must n = 1;must a=1 or n=1;must a=1 and n=1;ask f 0 9;");
        x.open(0, 0);
        CHECKS.due("14 no must is broken by what is absent", 0, () -> x.answer(0, 5));
        int[] want = {5, ABSENT, ABSENT, ABSENT, 1, ABSENT, ABSENT, ABSENT, ABSENT};
        for (int s = 0; s < want.length; s++) {
            int statement = s;
            CHECKS.due("16 absence " + s, want[s], () -> x.given(0, statement, false));
        }
    }

    private static void registerAsItWas() {
        CensusOffice x = Checks.office("let a reg 0;let b reg 5;ask c 0 9;let d reg 0 - reg 5;");
        x.unit();
        x.tick(1440);
        x.tell(0, 0, 1, 11);
        x.tell(0, 0, 2, 12);
        x.tell(1, 5, 0, 55);
        x.open(0, 0);
        CHECKS.due("16 on the day", 11, () -> x.given(0, 0, false));
        CHECKS.due("16 not told", ABSENT, () -> x.given(0, 1, false));
        x.tell(0, 0, 1, 13);
        x.merge(1, 0);
        x.tick(1440);
        x.answer(0, 3);
        CHECKS.due("16 as it was then", 11, () -> x.given(0, 0, false));
        CHECKS.due("16 behind the answer, too", ABSENT, () -> x.given(0, 3, false));
        x.open(0, 0);
        CHECKS.due("16 newer", 12, () -> x.given(1, 0, false));
        CHECKS.due("16 by the merge", 55, () -> x.given(1, 1, false));
        x.answer(1, 3);
        CHECKS.due("16 both", -43, () -> x.given(1, 3, false));
    }

    private static void musts() {
        CensusOffice x = Checks.office("must 1=2;ask a 0 9;must a>2;must a>4;ask b 0 9;must a>8;");
        x.open(0, 0);
        CHECKS.due("13 a must ahead refuses nothing", 1, () -> x.question(0));
        CHECKS.due("14 by the first must", 102, () -> x.answer(0, 1));
        CHECKS.due("14 by the second must", 103, () -> x.answer(0, 3));
        CHECKS.due("14 again, no notes of musts", 103, () -> x.answer(0, 3));
        CHECKS.due("13 still a", 1, () -> x.question(0));
        CHECKS.due("16 not given", ABSENT, () -> x.given(0, 1, false));
        CHECKS.due("14 those on the walk alone", 0, () -> x.answer(0, 5));
        CHECKS.due("14 a must behind the next one", 105, () -> x.answer(0, 5));
        CHECKS.due("13 still b", 4, () -> x.question(0));
    }

    private static void warns() {
        CensusOffice x = Checks.office("ask a 0 9;warn a>2;warn a>4;ask b 0 9;warn b>0;");
        x.open(0, 0);
        CHECKS.due("14 by the first warn", 201, () -> x.answer(0, 1));
        CHECKS.due("14 by the second warn", 202, () -> x.answer(0, 1));
        CHECKS.due("14 both noted", 0, () -> x.answer(0, 1));
        CHECKS.due("14 another question", 204, () -> x.answer(0, 0));
        CHECKS.due("14 noted", 0, () -> x.answer(0, 0));
        CHECKS.due("13 end", NONE, () -> x.question(0));
    }

    private static void mustsFirst() {
        CensusOffice x = Checks.office("ask a 0 9;warn a>2;must a>1;");
        x.open(0, 0);
        CHECKS.due("14 a must behind a warn", 102, () -> x.answer(0, 1));
        CHECKS.due("14 the warn alone", 201, () -> x.answer(0, 2));
        CHECKS.due("14 the warn was noted", 0, () -> x.answer(0, 2));
    }

    private static void notesGone() {
        CensusOffice x = Checks.office("ask a 0 9;warn a>4;must a>0;ask b 0 9;warn b>4;");
        x.open(0, 0);
        CHECKS.due("14 noted with 1", 201, () -> x.answer(0, 1));
        CHECKS.due("14 another number", 201, () -> x.answer(0, 2));
        CHECKS.due("14 the first number again", 201, () -> x.answer(0, 1));
        CHECKS.refused("14 a call that throws", Checks.ARGUMENT, () -> x.answer(0, 10));
        CHECKS.due("14 changes no notes", 0, () -> x.answer(0, 1));
        CHECKS.due("15 back", 0, () -> x.back(0));
        CHECKS.due("14 notes went with the answer", 201, () -> x.answer(0, 1));
        CHECKS.due("14 another number, by a must", 102, () -> x.answer(0, 0));
        CHECKS.due("14 gone by that", 201, () -> x.answer(0, 1));
        CHECKS.due("14 taken", 0, () -> x.answer(0, 1));
        CHECKS.due("14 b", 204, () -> x.answer(0, 3));
        CHECKS.due("15 back from b", 0, () -> x.back(0));
        CHECKS.due("14 no warn", 0, () -> x.answer(0, 5));
        CHECKS.due("14 b is noted no more", 204, () -> x.answer(0, 3));
        x.open(0, 0);
        x.answer(1, 5);
        CHECKS.due("14 notes are the session's", 204, () -> x.answer(1, 3));
        CHECKS.due("14 of the other one", 0, () -> x.answer(0, 3));
    }

    private static void goingBack() {
        CensusOffice x = Checks.office("ask a 0 9;ask b 0 9 if a>4;ask c 0 9;");
        x.open(0, 0);
        CHECKS.due("15 nothing given", NONE, () -> x.back(0));
        x.answer(0, 3);
        x.answer(0, 8);
        CHECKS.due("13 at its end", NONE, () -> x.question(0));
        CHECKS.due("15 the last one", 2, () -> x.back(0));
        CHECKS.due("16 aside", 8, () -> x.given(0, 2, true));
        CHECKS.due("16 not given", ABSENT, () -> x.given(0, 2, false));
        CHECKS.due("15 on, not to b", 0, () -> x.back(0));
        CHECKS.due("16 a aside", 3, () -> x.given(0, 0, true));
        CHECKS.due("15 nothing more", NONE, () -> x.back(0));
        CHECKS.due("16 a stays aside", 3, () -> x.given(0, 0, true));
        CHECKS.due("13 a", 0, () -> x.question(0));
        CHECKS.refused("15 session", Checks.INDEX, () -> x.back(1));
        CHECKS.refused("15 below", Checks.INDEX, () -> x.back(-1));
    }

    private static void asides() {
        CensusOffice x = Checks.office("ask a 0 9;ask b 0 9 if a>4;ask c 0 9;ask d 0 9;");
        x.open(0, 0);
        x.answer(0, 3);
        x.answer(0, 4);
        x.answer(0, 5);
        x.back(0);
        x.back(0);
        x.back(0);
        CHECKS.due("14 the same way again", 0, () -> x.answer(0, 2));
        CHECKS.due("13 all came back", NONE, () -> x.question(0));
        CHECKS.due("16 a is new", 2, () -> x.given(0, 0, false));
        CHECKS.due("16 its aside is gone", ABSENT, () -> x.given(0, 0, true));
        CHECKS.due("16 c came back", 4, () -> x.given(0, 2, false));
        CHECKS.due("16 c is aside no more", ABSENT, () -> x.given(0, 2, true));
        x.back(0);
        x.back(0);
        x.back(0);
        x.answer(0, 7);
        CHECKS.due("13 b was never answered", 1, () -> x.question(0));
        CHECKS.due("16 c waits", 4, () -> x.given(0, 2, true));
        x.answer(0, 9);
        CHECKS.due("13 c and d came back", NONE, () -> x.question(0));
        x.back(0);
        x.back(0);
        x.back(0);
        x.back(0);
        CHECKS.due("16 b aside", 9, () -> x.given(0, 1, true));
        x.answer(0, 1);
        CHECKS.due("13 without b", NONE, () -> x.question(0));
        CHECKS.due("16 b stays aside", 9, () -> x.given(0, 1, true));
        x.back(0);
        x.answer(0, 6);
        x.back(0);
        CHECKS.due("16 in place of the one that was", 6, () -> x.given(0, 3, true));
    }

    private static void asidesStopped() {
        CensusOffice x = Checks.office("ask a 0 9;ask b 0 9;must a<>b;warn b<>5;ask c 0 9;");
        x.open(0, 0);
        x.answer(0, 1);
        x.answer(0, 2);
        x.answer(0, 3);
        x.back(0);
        x.back(0);
        x.back(0);
        CHECKS.due("14 refuses not", 0, () -> x.answer(0, 2));
        CHECKS.due("13 b would be refused", 1, () -> x.question(0));
        CHECKS.due("16 b stays aside", 2, () -> x.given(0, 1, true));
        CHECKS.due("16 c stays aside", 3, () -> x.given(0, 4, true));
        CHECKS.due("14 by a warn", 203, () -> x.answer(0, 5));
        CHECKS.due("14 noted", 0, () -> x.answer(0, 5));
        CHECKS.due("13 c came back", NONE, () -> x.question(0));
        x.back(0);
        x.back(0);
        x.back(0);
        CHECKS.due("14 a", 0, () -> x.answer(0, 7));
        CHECKS.due("13 a warn stops it, too", 1, () -> x.question(0));
        CHECKS.due("16 with its answer", 5, () -> x.given(0, 1, true));
        CHECKS.due("14 no note of that", 203, () -> x.answer(0, 5));
    }

    private static void ends() {
        CensusOffice x = Checks.office("ask a 0 9;must a>0;let b a+1;");
        x.open(0, 0);
        CHECKS.refused("17 not at its end", Checks.STATE, () -> x.close(0));
        CHECKS.refused("17 session", Checks.INDEX, () -> x.close(1));
        CHECKS.refused("17 below", Checks.INDEX, () -> x.close(-1));
        x.answer(0, 3);
        CHECKS.refused("14 at its end", Checks.STATE, () -> x.answer(0, 99));
        CHECKS.due("17 close", 0, () -> x.close(0));
        CHECKS.refused("17 again", Checks.STATE, () -> x.close(0));
        CHECKS.refused("14 closed", Checks.STATE, () -> x.answer(0, 99));
        CHECKS.refused("15 closed", Checks.STATE, () -> x.back(0));
        CHECKS.due("13 closed", NONE, () -> x.question(0));
        CHECKS.due("16 closed", 4, () -> x.given(0, 2, false));
        CHECKS.due("39 open ones", 0, () -> x.told(5));
        CHECKS.due("39 sessions", 1, () -> x.told(4));
        x.open(0, 0);
        x.open(0, 0);
        x.answer(2, 1);
        CHECKS.due("17 records by closing", 1, () -> x.close(2));
        CensusOffice y = Checks.office("let a 1;must a=2;");
        y.open(0, 0);
        CHECKS.due("13 nothing to ask", NONE, () -> y.question(0));
        CHECKS.due("15 nothing to go back to", NONE, () -> y.back(0));
        CHECKS.due("17 a form without asks", 0, () -> y.close(0));
    }
}
