/** Promises 18 to 24: records, rules, costs, least sets, imputations. */
public final class EditTest {
    private static final int NONE = CensusOffice.NONE;
    private static final int ABSENT = CensusOffice.ABSENT;
    private static final Checks CHECKS = new Checks("EditTest");

    public static void main(String[] args) {
        recordsKept();
        rulesRefused();
        rulesFull();
        costs();
        breaking();
        leastSets();
        leastByCosts();
        noSet();
        absentAsks();
        greatestTogether();
        chains();
        twentyStatements();
        donors();
        donorsPassedOver();
        donorsByDistance();
        letsAnew();
        imputeRefused();
        CHECKS.end();
    }

    private static void recordsKept() {
        CensusOffice x = Checks.office("ask a 0 9;ask b 0 9 if a>4;let c a+1;must a=a;warn a=a;");
        Checks.record(x, 0, 0, 3);
        int[] want = {3, ABSENT, 4, ABSENT, ABSENT};
        for (int s = 0; s < 5; s++) {
            int statement = s;
            CHECKS.due("18 item " + s, want[s], () -> x.item(0, statement));
            CHECKS.due("19 mark " + s, 0, () -> x.mark(0, statement));
        }
        CHECKS.refused("18 record", Checks.INDEX, () -> x.item(1, 0));
        CHECKS.refused("18 record below", Checks.INDEX, () -> x.item(-1, 0));
        CHECKS.refused("18 statement", Checks.INDEX, () -> x.item(0, 5));
        CHECKS.refused("18 statement below", Checks.INDEX, () -> x.item(0, -1));
        CHECKS.refused("19 record", Checks.INDEX, () -> x.mark(1, 0));
        CHECKS.refused("19 statement", Checks.INDEX, () -> x.mark(0, 5));
        CHECKS.refused("19 statement below", Checks.INDEX, () -> x.mark(0, -1));
    }

    private static void rulesRefused() {
        CensusOffice x = Checks.office("ask a 0 9;let b a;ask c 0 9;must a=b;");
        CHECKS.refused("20 form", Checks.INDEX, () -> x.rule(1, 1, 1, 9));
        CHECKS.refused("20 form below", Checks.INDEX, () -> x.rule(-1, 0, 2, 0));
        CHECKS.refused("20 a", Checks.INDEX, () -> x.rule(0, 4, 1, 0));
        CHECKS.refused("20 b", Checks.INDEX, () -> x.rule(0, 1, 4, 0));
        CHECKS.refused("20 a below", Checks.INDEX, () -> x.rule(0, -2, 1, 0));
        CHECKS.refused("20 b below", Checks.INDEX, () -> x.rule(0, 0, -2, 3000000));
        CHECKS.refused("20 a let", Checks.ARGUMENT, () -> x.rule(0, 1, 0, 0));
        CHECKS.refused("20 a must", Checks.ARGUMENT, () -> x.rule(0, 0, 3, 0));
        CHECKS.refused("20 the same", Checks.ARGUMENT, () -> x.rule(0, 0, 0, 0));
        CHECKS.refused("20 none at all", Checks.ARGUMENT, () -> x.rule(0, NONE, NONE, 0));
        CHECKS.refused("20 n", Checks.ARGUMENT, () -> x.rule(0, 0, 2, 2000001));
        CHECKS.refused("20 n below", Checks.ARGUMENT, () -> x.rule(0, 0, 2, -2000001));
        CHECKS.due("20 the first number", 0, () -> x.rule(0, 0, 2, 2000000));
        CHECKS.due("20 without a", 1, () -> x.rule(0, NONE, 2, -2000000));
        CHECKS.due("20 without b", 2, () -> x.rule(0, 0, NONE, 0));
    }

    private static void rulesFull() {
        CensusOffice x = Checks.office("ask a 0 9;ask b 0 9;");
        Checks.form(x, "ask a 0 9;");
        for (int k = 0; k < 16; k++) {
            int want = k;
            CHECKS.due("20 rule", want, () -> x.rule(0, 0, 1, 0));
        }
        CHECKS.refused("20 no room", Checks.ROOM, () -> x.rule(0, 0, 1, 0));
        CHECKS.refused("20 an argument first", Checks.ARGUMENT, () -> x.rule(0, 0, 0, 0));
        CHECKS.due("20 the other form has room", 0, () -> x.rule(1, 0, NONE, 0));
        Checks.record(x, 0, 0, 1, 0);
        CHECKS.due("22 all of them", 16, () -> x.broken(0, NONE));
        CHECKS.due("22 the last of them", 15, () -> x.broken(0, 15));
    }

    private static void costs() {
        CensusOffice x = Checks.office("ask a 0 9;let b a;");
        CHECKS.due("21 it was 1", 1, () -> x.cost(0, 0, 100));
        CHECKS.due("11 it is 100", 100, () -> x.statement(0, 0, 3));
        CHECKS.due("21 it was 100", 100, () -> x.cost(0, 0, 1));
        CHECKS.refused("21 form", Checks.INDEX, () -> x.cost(1, 0, 0));
        CHECKS.refused("21 statement", Checks.INDEX, () -> x.cost(0, 2, 0));
        CHECKS.refused("21 statement below", Checks.INDEX, () -> x.cost(0, -1, 1));
        CHECKS.refused("21 no ask", Checks.ARGUMENT, () -> x.cost(0, 1, 1));
        CHECKS.refused("21 0", Checks.ARGUMENT, () -> x.cost(0, 0, 0));
        CHECKS.refused("21 101", Checks.ARGUMENT, () -> x.cost(0, 0, 101));
        CHECKS.due("11 still 1", 1, () -> x.statement(0, 0, 3));
    }

    private static void breaking() {
        CensusOffice x = Checks.office("ask a 0 9;ask b 0 9;ask c 0 9 if a=0;");
        x.rule(0, 0, 1, 2);
        x.rule(0, 1, 0, 2);
        x.rule(0, 0, NONE, 5);
        x.rule(0, NONE, 1, -1);
        x.rule(0, 2, NONE, -1);
        x.rule(0, NONE, 2, -10);
        Checks.record(x, 0, 0, 6, 0);
        CHECKS.due("22 three", 3, () -> x.broken(0, NONE));
        int[] want = {0, 2, 3, NONE, NONE};
        for (int k = 0; k < want.length; k++) {
            int asked = k;
            CHECKS.due("22 the " + k, want[k], () -> x.broken(0, asked));
        }
        Checks.record(x, 0, 0, 5, 3);
        CHECKS.due("22 just kept, what is absent breaks nothing", 0, () -> x.broken(1, NONE));
        CHECKS.due("22 none", NONE, () -> x.broken(1, 0));
        CHECKS.refused("22 record", Checks.INDEX, () -> x.broken(2, 0));
        CHECKS.refused("22 k", Checks.INDEX, () -> x.broken(0, -2));
        CHECKS.due("22 a great k", NONE, () -> x.broken(0, Integer.MAX_VALUE));
    }

    private static void leastSets() {
        CensusOffice x = Checks.office("ask a 0 9;ask b 0 9;ask c 0 9;let d a;ask e 0 9;");
        Checks.record(x, 0, 0, 9, 1, 9, 9);
        CHECKS.due("23 no rule, nothing to change", 0, () -> x.least(0, false));
        CHECKS.due("23 the empty set", 0, () -> x.least(0, true));
        x.rule(0, 0, 1, 0);
        CHECKS.due("23 one of both", 1, () -> x.least(0, false));
        CHECKS.due("23 the least bits", 1, () -> x.least(0, true));
        x.rule(0, 2, 1, 0);
        CHECKS.due("23 b alone mends both", 2, () -> x.least(0, true));
        x.rule(0, 4, 1, 0);
        CHECKS.due("23 and a third", 2, () -> x.least(0, true));
        x.rule(0, 1, NONE, 1);
        CHECKS.due("23 b may not rise", 3, () -> x.least(0, false));
        CHECKS.due("23 all others", 1 + 4 + 16, () -> x.least(0, true));
        CHECKS.refused("23 record", Checks.INDEX, () -> x.least(1, true));
        CHECKS.refused("23 below", Checks.INDEX, () -> x.least(-1, true));
    }

    private static void leastByCosts() {
        CensusOffice x = Checks.office("ask a 0 9;ask b 0 9;ask c 0 9;");
        x.rule(0, 0, 1, 0);
        x.rule(0, 2, 1, 0);
        Checks.record(x, 0, 0, 9, 1, 9);
        x.cost(0, 1, 3);
        CHECKS.due("23 a and c are cheaper", 5, () -> x.least(0, true));
        CHECKS.due("23 their sum", 2, () -> x.least(0, false));
        x.cost(0, 1, 2);
        CHECKS.due("23 the same sum, least bits", 2, () -> x.least(0, true));
        CHECKS.due("23 the sum", 2, () -> x.least(0, false));
    }

    private static void noSet() {
        CensusOffice x = Checks.office("ask a 0 9;ask b 0 9;ask c 0 9 if a>5;");
        Checks.record(x, 0, 0, 3, 4);
        Checks.record(x, 0, 0, 7, 4, 2);
        x.rule(0, 0, 1, -9);
        CHECKS.due("23 just possible", 3, () -> x.least(0, true));
        x.rule(0, 1, 0, 8);
        CHECKS.due("23 not both", NONE, () -> x.least(0, true));
        CHECKS.due("23 no sum", NONE, () -> x.least(0, false));
        CHECKS.refused("24 no set", Checks.STATE, () -> x.impute(0, 0));
        CHECKS.refused("24 by a donor neither", Checks.STATE, () -> x.impute(0, 1));
        CHECKS.due("18 nothing changed", 3, () -> x.item(0, 0));
        CensusOffice y = Checks.office("ask a 0 1000;ask b 0 1000;");
        Checks.record(y, 0, 0, 500, 500);
        y.rule(0, 0, 1, -1);
        y.rule(0, 1, 0, 0);
        CHECKS.due("23 a round of rules that sinks", NONE, () -> y.least(0, true));
    }

    private static void absentAsks() {
        CensusOffice x = Checks.office("ask a 0 9 if reg 0=1;ask b 0 9;");
        x.rule(0, 0, NONE, -1);
        x.rule(0, 1, 0, -20);
        Checks.record(x, 0, 0, 5);
        CHECKS.due("22 what is absent breaks nothing", 0, () -> x.broken(0, NONE));
        CHECKS.due("23 nor is it in a set", 0, () -> x.least(0, true));
        x.rule(0, 1, NONE, 3);
        CHECKS.due("24 b alone", 1, () -> x.impute(0, 0));
        CHECKS.due("18 a stays absent", ABSENT, () -> x.item(0, 0));
        CHECKS.due("18 b", 3, () -> x.item(0, 1));
    }

    private static void twentyStatements() {
        StringBuilder text = new StringBuilder();
        for (int k = 0; k < 10; k++) {
            char name = (char) ('a' + k);
            text.append("let ").append(name).append("x ").append(k).append(";ask ").append(name).append(" 0 9;");
        }
        CensusOffice x = Checks.office(text.toString());
        Checks.record(x, 0, 0, 1, 1, 1, 1, 1, 1, 1, 1, 1, 1);
        Checks.record(x, 0, 0, 2, 2, 2, 2, 2, 2, 2, 2, 2, 2);
        x.rule(0, NONE, 19, -2);
        CHECKS.due("23 the last of twenty", 1 << 19, () -> x.least(0, true));
        CHECKS.due("24 by a donor", 1, () -> x.impute(0, 1));
        CHECKS.due("18 the last of twenty", 2, () -> x.item(0, 19));
        CHECKS.due("18 the last let", 9, () -> x.item(0, 18));
        x.rule(0, NONE, 19, -5);
        CHECKS.due("24 by the greatest", 1, () -> x.impute(0, 0));
        CHECKS.due("18 the greatest", 9, () -> x.item(0, 19));
        x.open(0, 0);
        for (int k = 0; k < 10; k++) {
            x.answer(2, k);
        }
        CHECKS.due("15 from the end of twenty", 19, () -> x.back(2));
        CHECKS.due("16 aside", 9, () -> x.given(2, 19, true));
    }

    private static void greatestTogether() {
        CensusOffice x = Checks.office("ask a 0 9;ask b 0 9;ask c 0 9;");
        x.rule(0, 0, 1, -2);
        x.rule(0, 1, 2, -1);
        Checks.record(x, 0, 0, 9, 9, 4);
        CHECKS.due("23 a and b", 3, () -> x.least(0, true));
        CHECKS.due("24 two items", 2, () -> x.impute(0, 0));
        CHECKS.due("18 a", 1, () -> x.item(0, 0));
        CHECKS.due("18 b", 3, () -> x.item(0, 1));
        CHECKS.due("18 c", 4, () -> x.item(0, 2));
        CHECKS.due("19 a", 1, () -> x.mark(0, 0));
        CHECKS.due("19 b", 1, () -> x.mark(0, 1));
        CHECKS.due("19 c", 0, () -> x.mark(0, 2));
        CHECKS.due("22 none is broken", 0, () -> x.broken(0, NONE));
        CHECKS.due("24 nothing more", 0, () -> x.impute(0, 0));
        CHECKS.due("19 a keeps its mark", 1, () -> x.mark(0, 0));
        CensusOffice y = Checks.office("ask a 0 9;ask b 0 9;");
        y.rule(0, NONE, 0, -5);
        Checks.record(y, 0, 0, 3, 3);
        CHECKS.due("24 one item", 1, () -> y.impute(0, 0));
        CHECKS.due("18 its greatest", 9, () -> y.item(0, 0));
    }

    private static void chains() {
        CensusOffice x = Checks.office("ask a 0 99;ask b 0 99;ask c 0 99;ask d 0 99;ask e 0 99;"
                + "ask f 0 99;ask g 0 99;ask h 0 99;ask i 0 99;ask j 0 99;");
        for (int k = 0; k < 9; k++) {
            x.rule(0, k, k + 1, -1);
        }
        Checks.record(x, 0, 0, 99, 99, 99, 99, 99, 99, 99, 99, 99, 99);
        CHECKS.due("23 nine of ten", 9, () -> x.least(0, false));
        CHECKS.due("23 not the last", 511, () -> x.least(0, true));
        CHECKS.due("24 nine", 9, () -> x.impute(0, 0));
        for (int s = 0; s < 10; s++) {
            int statement = s;
            CHECKS.due("18 the chain " + s, 90 + s, () -> x.item(0, statement));
        }
    }

    private static void donors() {
        CensusOffice x = Checks.office("ask a 0 9;ask b 0 9;ask c 0 9;");
        x.rule(0, 0, 1, 0);
        Checks.record(x, 0, 0, 9, 5, 5);
        Checks.record(x, 0, 0, 2, 9, 9);
        Checks.record(x, 0, 0, 3, 6, 5);
        CHECKS.due("24 by a donor", 1, () -> x.impute(0, 1));
        CHECKS.due("18 the nearest one's", 3, () -> x.item(0, 0));
        CHECKS.due("19 by a donor", 2, () -> x.mark(0, 0));
        CHECKS.due("19 others not", 0, () -> x.mark(0, 1));
        CHECKS.due("18 the donor stays", 3, () -> x.item(2, 0));
        CHECKS.due("19 the donor, too", 0, () -> x.mark(2, 0));
        CHECKS.due("24 the set is empty then", 0, () -> x.impute(0, 1));
        CHECKS.due("19 the mark stays", 2, () -> x.mark(0, 0));
        x.rule(0, 0, NONE, 1);
        CHECKS.due("24 again, by the greatest", 1, () -> x.impute(0, 0));
        CHECKS.due("18 the greatest", 1, () -> x.item(0, 0));
        CHECKS.due("19 as imputed last", 1, () -> x.mark(0, 0));
    }

    private static void donorsPassedOver() {
        CensusOffice x = Checks.office("ask a 0 9;ask b 0 9;ask c 0 9 if b<>1;");
        Checks.form(x, "ask a 0 9;ask b 0 9;ask c 0 9;");
        x.rule(0, 2, 0, 0);
        x.cost(0, 0, 5);
        Checks.record(x, 0, 0, 4, 2, 9);
        Checks.record(x, 0, 0, 4, 2, 8);
        Checks.record(x, 0, 0, 4, 1);
        Checks.record(x, 0, 0, 9, 2, 5);
        Checks.record(x, 1, 0, 4, 2, 4);
        CHECKS.due("23 c", 4, () -> x.least(0, true));
        CHECKS.due("24 none can give", 1, () -> x.impute(0, 1));
        CHECKS.due("18 as by way 0", 4, () -> x.item(0, 2));
        CHECKS.due("19 as by way 0", 1, () -> x.mark(0, 2));
        Checks.record(x, 0, 0, 9, 9, 3);
        CHECKS.due("24 a far one can", 1, () -> x.impute(1, 1));
        CHECKS.due("18 the nearest that fits is the mended one", 4, () -> x.item(1, 2));
        CHECKS.due("19 by a donor", 2, () -> x.mark(1, 2));
    }

    private static void donorsByDistance() {
        CensusOffice x = Checks.office("ask a 0 9;ask b 0 9 if a<>1;ask c 0 9;");
        x.rule(0, 2, NONE, 7);
        Checks.record(x, 0, 0, 5, 5, 9);
        Checks.record(x, 0, 0, 4, 4, 1);
        Checks.record(x, 0, 0, 3, 5, 2);
        Checks.record(x, 0, 0, 1, 3);
        Checks.record(x, 0, 0, 5, 7, 4);
        CHECKS.due("24 the same distance", 1, () -> x.impute(0, 1));
        CHECKS.due("18 the lesser number", 1, () -> x.item(0, 2));
        Checks.record(x, 0, 0, 1, 8);
        CHECKS.due("24 what is absent is not counted", 1, () -> x.impute(5, 1));
        CHECKS.due("18 of the one at distance 0", 3, () -> x.item(5, 2));
    }

    private static void letsAnew() {
        CensusOffice x = Checks.office("ask a 0 9;ask b 0 9;let c a+b+reg 0;let d 1 if a>5;let e c+1 if a<=5;ask f 0 9 if a<5;");
        x.tell(0, 0, 0, 100);
        x.rule(0, 0, NONE, 3);
        Checks.record(x, 0, 0, 8, 2);
        x.tell(0, 0, 0, 200);
        int[] was = {8, 2, 110, 1, ABSENT, ABSENT};
        int[] want = {3, 2, 105, ABSENT, 106, ABSENT};
        for (int s = 0; s < 6; s++) {
            int statement = s;
            CHECKS.due("18 it was " + s, was[s], () -> x.item(0, statement));
        }
        CHECKS.due("24 a", 1, () -> x.impute(0, 0));
        for (int s = 0; s < 6; s++) {
            int statement = s;
            CHECKS.due("18 anew " + s, want[s], () -> x.item(0, statement));
            CHECKS.due("19 marks " + s, s == 0 ? 1 : 0, () -> x.mark(0, statement));
        }
        CHECKS.due("16 the session keeps what was given", 8, () -> x.given(0, 0, false));
    }

    private static void imputeRefused() {
        CensusOffice x = Checks.office("ask a 0 9;");
        x.rule(0, 0, NONE, -1);
        Checks.record(x, 0, 0, 3);
        CHECKS.refused("24 record", Checks.INDEX, () -> x.impute(1, 7));
        CHECKS.refused("24 record below", Checks.INDEX, () -> x.impute(-1, 0));
        CHECKS.refused("24 way ahead of no set", Checks.ARGUMENT, () -> x.impute(0, 2));
        CHECKS.refused("24 way below", Checks.ARGUMENT, () -> x.impute(0, -1));
        CHECKS.refused("24 no set", Checks.STATE, () -> x.impute(0, 0));
    }
}
