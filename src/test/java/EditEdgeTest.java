/**
 * RECORDS, RULES and promises 18 to 24: each sentence that names an edge has a method of its own
 * here, with the last input that is taken and the first that is refused.
 */
public final class EditEdgeTest {
    private static final int NONE = CensusOffice.NONE;
    private static final int ABSENT = CensusOffice.ABSENT;
    private static final int LEAST = Integer.MIN_VALUE;
    private static final int MOST = Integer.MAX_VALUE;
    private static final String MIXED = "ask a 0 9;let b a;must a=b;warn a=b;ask c 0 9;";
    private static final Checks CHECKS = new Checks("EditEdgeTest");

    public static void main(String[] args) {
        itemTakesRecordsAndStatements();
        markTakesRecordsAndStatements();
        ruleTakesForms();
        ruleTakesStatements();
        ruleTakesAsksAlone();
        ruleRefusesTheSame();
        ruleTakesDifferences();
        rulesAreSixteen();
        ruleRefusesInOrder();
        ruleRefusedChangesNothing();
        atMostN();
        atMostNWithoutOne();
        atMostNOfGreatNumbers();
        absentBreaksNothing();
        costTakesFormsAndStatements();
        costTakesOneToHundred();
        costRefusesInOrder();
        brokenTakesRecords();
        brokenTakesPlaces();
        leastTakesRecords();
        leastOfNothingBroken();
        leastWithinTheBounds();
        leastByOneCost();
        leastBitsOfTheSameCost();
        leastOfAllTen();
        leastWithoutAbsentOnes();
        imputeTakesRecordsAndWays();
        imputeRefusesInOrder();
        imputeRefusedChangesNothing();
        imputeOfTheEmptySet();
        greatestDownToTheLeast();
        donorThatFits();
        donorOfTheSameDistance();
        distanceOverOtherAsksAlone();
        distanceOfSizes();
        donorsThatAreNone();
        donorsNumberOfBefore();
        marksOfTheSetAlone();
        letsBeyondMillion();
        CHECKS.end();
    }

    private static void items(String what, CensusOffice x, int record, int... want) {
        CHECKS.row(what, want, s -> x.item(record, s));
    }

    private static void marks(String what, CensusOffice x, int record, int... want) {
        CHECKS.row(what, want, s -> x.mark(record, s));
    }

    // ---- 18, 19: item, mark

    private static void itemTakesRecordsAndStatements() {
        CensusOffice x = Checks.office(MIXED);
        Checks.record(x, 0, 0, 3, 4);
        Checks.record(x, 0, 0, 5, 6);
        CHECKS.refusedFor("18 no such record", Checks.INDEX, k -> x.item(k, 0), -1, 2, LEAST, MOST);
        CHECKS.refusedFor("18 no such statement", Checks.INDEX, s -> x.item(0, s), -1, 5, LEAST, MOST);
        items("18 the first record", x, 0, 3, 3, ABSENT, ABSENT, 4);
        items("18 the last record", x, 1, 5, 5, ABSENT, ABSENT, 6);
    }

    private static void markTakesRecordsAndStatements() {
        CensusOffice x = Checks.office(MIXED);
        Checks.record(x, 0, 0, 3, 4);
        Checks.record(x, 0, 0, 5, 6);
        x.rule(0, 4, NONE, 5);
        x.impute(1, 0);
        CHECKS.refusedFor("19 no such record", Checks.INDEX, k -> x.mark(k, 0), -1, 2, LEAST, MOST);
        CHECKS.refusedFor("19 no such statement", Checks.INDEX, s -> x.mark(0, s), -1, 5, LEAST, MOST);
        marks("19 the first record", x, 0, 0, 0, 0, 0, 0);
        marks("19 the last record", x, 1, 0, 0, 0, 0, 1);
    }

    // ---- 20: rule

    private static void ruleTakesForms() {
        CensusOffice x = Checks.office("ask a 0 9;");
        Checks.form(x, "ask a 0 9;");
        CHECKS.refusedFor("20 no such form", Checks.INDEX, f -> x.rule(f, 0, NONE, 0), -1, 2, LEAST, MOST);
        CHECKS.row("20 each form counts from 0", new int[] {0, 0}, f -> x.rule(f, 0, NONE, 0));
    }

    private static void ruleTakesStatements() {
        CensusOffice x = Checks.office(MIXED);
        CHECKS.refusedFor("20 no such a", Checks.INDEX, a -> x.rule(0, a, 0, 0), -2, 5, LEAST, MOST);
        CHECKS.refusedFor("20 no such b", Checks.INDEX, b -> x.rule(0, 0, b, 0), -2, 5, LEAST, MOST);
        CHECKS.due("20 the first and the last", 0, () -> x.rule(0, 0, 4, 0));
        CHECKS.due("20 the last and the first", 1, () -> x.rule(0, 4, 0, 0));
        CHECKS.due("20 NONE and the last", 2, () -> x.rule(0, NONE, 4, 0));
        CHECKS.due("20 the first and NONE", 3, () -> x.rule(0, 0, NONE, 0));
    }

    private static void ruleTakesAsksAlone() {
        CensusOffice x = Checks.office(MIXED);
        CHECKS.refusedFor("20 a is no ask", Checks.ARGUMENT, a -> x.rule(0, a, 0, 0), 1, 2, 3);
        CHECKS.refusedFor("20 b is no ask", Checks.ARGUMENT, b -> x.rule(0, 0, b, 0), 1, 2, 3);
        CHECKS.refusedFor("20 a is no ask, without b", Checks.ARGUMENT, a -> x.rule(0, a, NONE, 0), 1, 2, 3);
        CHECKS.refusedFor("20 b is no ask, without a", Checks.ARGUMENT, b -> x.rule(0, NONE, b, 0), 1, 2, 3);
    }

    private static void ruleRefusesTheSame() {
        CensusOffice x = Checks.office(MIXED);
        CHECKS.refusedFor("20 both the same", Checks.ARGUMENT, a -> x.rule(0, a, a, 0), 0, 4, 1, NONE);
        CHECKS.due("20 two of them", 0, () -> x.rule(0, 0, 4, 0));
    }

    private static void ruleTakesDifferences() {
        CensusOffice x = Checks.office(MIXED);
        CHECKS.refusedFor("20 n is not -2000000 .. 2000000", Checks.ARGUMENT, n -> x.rule(0, 0, 4, n),
                -2000001, 2000001, LEAST, MOST);
        CHECKS.due("20 n = -2000000", 0, () -> x.rule(0, 0, 4, -2000000));
        CHECKS.due("20 n = 2000000", 1, () -> x.rule(0, 0, 4, 2000000));
        Checks.record(x, 0, 0, 0, 9);
        CHECKS.due("22 the first one is BROKEN always", 0, () -> x.broken(0, 0));
        CHECKS.due("22 the second one never", 1, () -> x.broken(0, NONE));
    }

    private static void rulesAreSixteen() {
        CensusOffice x = Checks.office("ask a 0 9;");
        Checks.form(x, "ask a 0 9;");
        for (int k = 0; k < 15; k++) {
            x.rule(0, 0, NONE, 0);
        }
        CHECKS.due("20 the 16th", 15, () -> x.rule(0, 0, NONE, 0));
        CHECKS.refused("20 no 17th", Checks.ROOM, () -> x.rule(0, 0, NONE, 0));
        Checks.record(x, 0, 0, 1);
        CHECKS.due("20 refused: sixteen", 16, () -> x.broken(0, NONE));
        CHECKS.due("20 another form has room", 0, () -> x.rule(1, 0, NONE, 0));
        CHECKS.due("20 as many as the first", 15, () -> {
            for (int k = 1; k < 15; k++) {
                x.rule(1, 0, NONE, 0);
            }
            return x.rule(1, 0, NONE, 0);
        });
        CHECKS.refused("20 and no more", Checks.ROOM, () -> x.rule(1, 0, NONE, 0));
    }

    private static void ruleRefusesInOrder() {
        CensusOffice x = Checks.office(MIXED);
        CHECKS.allRefused("20 an index ahead of an argument", Checks.INDEX, () -> x.rule(1, 1, 1, 2000001),
                () -> x.rule(0, 5, 1, 2000001), () -> x.rule(0, 1, 5, 2000001), () -> x.rule(0, -2, -2, 0));
        for (int k = 0; k < 16; k++) {
            x.rule(0, 0, 4, 0);
        }
        CHECKS.allRefused("20 an index ahead of no room", Checks.INDEX, () -> x.rule(1, 0, 4, 0),
                () -> x.rule(0, 5, 4, 0), () -> x.rule(0, 0, 5, 0));
        CHECKS.allRefused("20 an argument ahead of no room", Checks.ARGUMENT, () -> x.rule(0, 1, 4, 0),
                () -> x.rule(0, 0, 1, 0), () -> x.rule(0, 0, 0, 0), () -> x.rule(0, 0, 4, 2000001));
        CHECKS.refused("20 no room", Checks.ROOM, () -> x.rule(0, 0, 4, 0));
    }

    private static void ruleRefusedChangesNothing() {
        CensusOffice x = Checks.office(MIXED);
        Checks.record(x, 0, 0, 5, 5);
        CHECKS.refused("20 n", Checks.ARGUMENT, () -> x.rule(0, 0, NONE, -2000001));
        CHECKS.refused("20 the same", Checks.ARGUMENT, () -> x.rule(0, 0, 0, -1));
        CHECKS.refused("20 a", Checks.INDEX, () -> x.rule(0, 5, 0, -1));
        CHECKS.due("20 refused: nothing is BROKEN", 0, () -> x.broken(0, NONE));
        CHECKS.due("20 the first rule", 0, () -> x.rule(0, 0, NONE, 4));
        CHECKS.due("22 it is BROKEN", 1, () -> x.broken(0, NONE));
    }

    private static void atMostN() {
        CensusOffice x = Checks.office("ask a -9 9;ask b -9 9;");
        Checks.record(x, 0, 0, 5, 3);
        Checks.record(x, 0, 0, -5, 3);
        x.rule(0, 0, 1, 2);
        CHECKS.due("22 5 less 3 is 2 at most", 0, () -> x.broken(0, NONE));
        x.rule(0, 0, 1, 1);
        CHECKS.due("22 it is not 1 at most", 1, () -> x.broken(0, 0));
        x.rule(0, 1, 0, -2);
        CHECKS.due("22 3 less 5 is -2 at most", 1, () -> x.broken(0, NONE));
        x.rule(0, 1, 0, -3);
        CHECKS.due("22 it is not -3 at most", 3, () -> x.broken(0, 1));
        x.rule(0, 0, 1, -8);
        CHECKS.due("22 -5 less 3 is -8 at most", 2, () -> x.broken(1, NONE));
        x.rule(0, 0, 1, -9);
        CHECKS.due("22 it is not -9 at most", 5, () -> x.broken(1, 2));
    }

    private static void atMostNWithoutOne() {
        CensusOffice x = Checks.office("ask a -9 9;ask b -9 9;");
        Checks.record(x, 0, 0, 5, 3);
        x.rule(0, 0, NONE, 5);
        CHECKS.due("22 5 less 0 is 5 at most", 0, () -> x.broken(0, NONE));
        x.rule(0, 0, NONE, 4);
        CHECKS.due("22 it is not 4 at most", 1, () -> x.broken(0, NONE));
        x.rule(0, NONE, 1, -3);
        CHECKS.due("22 0 less 3 is -3 at most", 1, () -> x.broken(0, NONE));
        x.rule(0, NONE, 1, -4);
        CHECKS.due("22 it is not -4 at most", 3, () -> x.broken(0, 1));
    }

    private static void atMostNOfGreatNumbers() {
        CensusOffice x = Checks.office("ask a -999999 999999;ask b -999999 999999;");
        Checks.record(x, 0, 0, 999999, -999999);
        x.rule(0, 0, 1, 2000000);
        x.rule(0, 0, 1, 1999998);
        CHECKS.due("22 1999998 at most", 0, () -> x.broken(0, NONE));
        x.rule(0, 0, 1, 1999997);
        x.rule(0, 1, 0, -1999998);
        CHECKS.due("22 not 1999997", 1, () -> x.broken(0, NONE));
        x.rule(0, 1, 0, -1999999);
        x.rule(0, 1, 0, -2000000);
        CHECKS.due("22 not -1999999", 3, () -> x.broken(0, NONE));
        CHECKS.due("23 no numbers are so far apart", NONE, () -> x.least(0, true));
        CensusOffice y = Checks.office("ask a -999999 999999;ask b -999999 999999;");
        Checks.record(y, 0, 0, 0, 0);
        y.rule(0, 0, 1, -1999998);
        CHECKS.due("23 both at their ends", 3, () -> y.least(0, true));
        CHECKS.due("24 both", 2, () -> y.impute(0, 0));
        items("18 both at their ends", y, 0, -999999, 999999);
    }

    private static void absentBreaksNothing() {
        CensusOffice x = Checks.office("ask a 0 9;ask b 0 9 if a=1;");
        Checks.record(x, 0, 0, 0);
        Checks.record(x, 0, 0, 1, 0);
        x.rule(0, 0, 1, -2000000);
        x.rule(0, 1, 0, -2000000);
        x.rule(0, 1, NONE, -2000000);
        x.rule(0, NONE, 1, -2000000);
        CHECKS.due("22 an ABSENT item breaks no rule", 0, () -> x.broken(0, NONE));
        CHECKS.due("22 neither is ABSENT", 4, () -> x.broken(1, NONE));
    }

    // ---- 21: cost

    private static void costTakesFormsAndStatements() {
        CensusOffice x = Checks.office(MIXED);
        Checks.form(x, "ask a 0 9;");
        CHECKS.refusedFor("21 no such form", Checks.INDEX, f -> x.cost(f, 0, 1), -1, 2, LEAST, MOST);
        CHECKS.refusedFor("21 no such statement", Checks.INDEX, s -> x.cost(0, s, 1), -1, 5, LEAST, MOST);
        CHECKS.refusedFor("21 no ask", Checks.ARGUMENT, s -> x.cost(0, s, 1), 1, 2, 3);
        CHECKS.due("21 the last statement, 1 at first", 1, () -> x.cost(0, 4, 7));
        CHECKS.due("21 the last form, 1 at first", 1, () -> x.cost(1, 0, 8));
        CHECKS.row("11 each has its own", new int[] {1, 0, 0, 0, 7}, s -> x.statement(0, s, 3));
        CHECKS.due("11 of the other form", 8, () -> x.statement(1, 0, 3));
    }

    private static void costTakesOneToHundred() {
        CensusOffice x = Checks.office("ask a 0 9;");
        CHECKS.refusedFor("21 not 1 .. 100", Checks.ARGUMENT, c -> x.cost(0, 0, c), 0, 101, -1, LEAST, MOST);
        CHECKS.due("21 refused: 1 as it was", 1, () -> x.cost(0, 0, 100));
        CHECKS.due("21 100 as it was", 100, () -> x.cost(0, 0, 1));
        CHECKS.due("11 1 again", 1, () -> x.statement(0, 0, 3));
    }

    private static void costRefusesInOrder() {
        CensusOffice x = Checks.office(MIXED);
        CHECKS.allRefused("21 an index ahead of an argument", Checks.INDEX, () -> x.cost(1, 1, 0),
                () -> x.cost(0, 5, 0), () -> x.cost(0, -1, 101));
        CHECKS.refused("21 no ask, and c", Checks.ARGUMENT, () -> x.cost(0, 1, 0));
    }

    // ---- 22: broken

    private static void brokenTakesRecords() {
        CensusOffice x = Checks.office("ask a 0 9;");
        x.rule(0, 0, NONE, 4);
        Checks.record(x, 0, 0, 4);
        Checks.record(x, 0, 0, 5);
        CHECKS.refusedFor("22 no such record", Checks.INDEX, k -> x.broken(k, NONE), -1, 2, LEAST, MOST);
        CHECKS.row("22 the first and the last", new int[] {0, 1}, k -> x.broken(k, NONE));
    }

    private static void brokenTakesPlaces() {
        CensusOffice x = Checks.office("ask a 0 9;");
        x.rule(0, 0, NONE, 4);
        x.rule(0, 0, NONE, 5);
        x.rule(0, 0, NONE, 3);
        Checks.record(x, 0, 0, 5);
        CHECKS.refusedFor("22 k below NONE", Checks.INDEX, k -> x.broken(0, k), -2, LEAST);
        CHECKS.due("22 k = NONE: how many", 2, () -> x.broken(0, NONE));
        CHECKS.row("22 the k-th, NONE if it has not so many", new int[] {0, 2, NONE, NONE}, k -> x.broken(0, k));
        CHECKS.due("22 the greatest k", NONE, () -> x.broken(0, MOST));
    }

    // ---- 23: least

    private static void leastTakesRecords() {
        CensusOffice x = Checks.office("ask a 0 9;");
        x.rule(0, 0, NONE, 4);
        Checks.record(x, 0, 0, 4);
        Checks.record(x, 0, 0, 5);
        CHECKS.refusedFor("23 no such record", Checks.INDEX, k -> x.least(k, true), -1, 2, LEAST, MOST);
        CHECKS.row("23 the first and the last", new int[] {0, 1}, k -> x.least(k, true));
    }

    private static void leastOfNothingBroken() {
        CensusOffice x = Checks.office("ask a 0 9;");
        Checks.form(x, "must 1=1;");
        Checks.record(x, 0, 0, 5);
        Checks.record(x, 1, 0);
        CHECKS.due("23 without a rule, the sum", 0, () -> x.least(0, false));
        CHECKS.due("23 without a rule, the set", 0, () -> x.least(0, true));
        x.rule(0, 0, NONE, 5);
        CHECKS.due("23 no rule is BROKEN", 0, () -> x.least(0, true));
        CHECKS.due("23 a form without asks", 0, () -> x.least(1, true));
        x.rule(0, 0, NONE, 4);
        CHECKS.due("23 one is BROKEN", 1, () -> x.least(0, true));
    }

    private static void leastWithinTheBounds() {
        CensusOffice x = Checks.office("ask a 2 7;");
        Checks.record(x, 0, 0, 5);
        x.rule(0, 0, NONE, 2);
        CHECKS.due("23 down to the least answer", 1, () -> x.least(0, true));
        x.rule(0, 0, NONE, 1);
        CHECKS.due("23 not below it, the set", NONE, () -> x.least(0, true));
        CHECKS.due("23 not below it, the sum", NONE, () -> x.least(0, false));
        CensusOffice y = Checks.office("ask a 2 7;");
        Checks.record(y, 0, 0, 5);
        y.rule(0, NONE, 0, -7);
        CHECKS.due("23 up to the greatest answer", 1, () -> y.least(0, true));
        y.rule(0, NONE, 0, -8);
        CHECKS.due("23 not above it", NONE, () -> y.least(0, true));
    }

    private static void leastByOneCost() {
        CensusOffice x = Checks.office("ask a 0 9;ask b 0 9;ask c 0 9;");
        x.rule(0, 0, 2, 0);
        x.rule(0, 1, 2, 0);
        Checks.record(x, 0, 0, 9, 9, 1);
        CHECKS.due("23 one costs less than two", 4, () -> x.least(0, true));
        CHECKS.due("23 its sum", 1, () -> x.least(0, false));
        x.cost(0, 2, 3);
        CHECKS.due("23 two cost less than one of 3", 3, () -> x.least(0, true));
        CHECKS.due("23 their sum", 2, () -> x.least(0, false));
        x.cost(0, 0, 2);
        x.cost(0, 1, 2);
        CHECKS.due("23 3 is less than 4", 4, () -> x.least(0, true));
        CHECKS.due("23 3", 3, () -> x.least(0, false));
    }

    private static void leastBitsOfTheSameCost() {
        CensusOffice x = Checks.office("ask a 0 9;ask b 0 9;ask c 0 9;");
        x.rule(0, 0, 2, 0);
        x.rule(0, 1, 2, 0);
        x.cost(0, 2, 2);
        Checks.record(x, 0, 0, 9, 9, 1);
        CHECKS.due("23 of 3 and 4 the lesser, though of two asks", 3, () -> x.least(0, true));
        CensusOffice y = Checks.office("ask c 0 9;ask a 0 9;ask b 0 9;");
        y.rule(0, 1, 0, 0);
        y.rule(0, 2, 0, 0);
        y.cost(0, 0, 2);
        Checks.record(y, 0, 0, 1, 9, 9);
        CHECKS.due("23 of 1 and 6 the lesser", 1, () -> y.least(0, true));
    }

    private static void leastOfAllTen() {
        StringBuilder text = new StringBuilder();
        for (int k = 0; k < 10; k++) {
            text.append("let x").append((char) ('a' + k)).append(" 1;ask ").append((char) ('a' + k)).append(" 0 9;");
        }
        CensusOffice x = Checks.office(text.toString());
        for (int k = 0; k < 10; k++) {
            x.rule(0, 2 * k + 1, NONE, 0);
            x.cost(0, 2 * k + 1, 100);
        }
        Checks.record(x, 0, 0, 9, 9, 9, 9, 9, 9, 9, 9, 9, 9);
        CHECKS.due("23 ten times 100", 1000, () -> x.least(0, false));
        CHECKS.due("23 bits of statements", 0xAAAAA, () -> x.least(0, true));
        CHECKS.due("24 ten items", 10, () -> x.impute(0, 0));
        CHECKS.due("23 nothing more", 0, () -> x.least(0, false));
    }

    private static void leastWithoutAbsentOnes() {
        CensusOffice x = Checks.office("ask a 0 9;ask b 0 9 if a=1;ask c 0 9;");
        x.rule(0, 2, 1, 0);
        x.rule(0, 2, NONE, 3);
        Checks.record(x, 0, 0, 0, 5);
        Checks.record(x, 0, 0, 1, 5, 5);
        CHECKS.due("23 b is ABSENT", 4, () -> x.least(0, true));
        CHECKS.due("24 c alone, by its own rule", 1, () -> x.impute(0, 0));
        items("18 b stays ABSENT", x, 0, 0, ABSENT, 3);
        marks("19 c", x, 0, 0, 0, 1);
        CHECKS.due("23 with b", 4, () -> x.least(1, true));
    }

    // ---- 24: impute

    private static void imputeTakesRecordsAndWays() {
        CensusOffice x = Checks.office("ask a 0 9;");
        x.rule(0, 0, NONE, 4);
        Checks.record(x, 0, 0, 5);
        Checks.record(x, 0, 0, 6);
        CHECKS.refusedFor("24 no such record", Checks.INDEX, k -> x.impute(k, 0), -1, 2, LEAST, MOST);
        CHECKS.refusedFor("24 no such way", Checks.ARGUMENT, way -> x.impute(0, way), -1, 2, LEAST, MOST);
        CHECKS.due("24 way 0", 1, () -> x.impute(0, 0));
        CHECKS.due("24 way 1", 1, () -> x.impute(1, 1));
    }

    private static void imputeRefusesInOrder() {
        CensusOffice x = Checks.office("ask a 0 9;");
        x.rule(0, 0, NONE, -1);
        Checks.record(x, 0, 0, 5);
        CHECKS.refused("24 an index ahead of the way", Checks.INDEX, () -> x.impute(1, 2));
        CHECKS.refused("24 the way ahead of no set", Checks.ARGUMENT, () -> x.impute(0, 2));
        CHECKS.refused("24 no set, way 0", Checks.STATE, () -> x.impute(0, 0));
        CHECKS.refused("24 no set, way 1", Checks.STATE, () -> x.impute(0, 1));
    }

    private static void imputeRefusedChangesNothing() {
        CensusOffice x = Checks.office("ask a 0 9;ask b 0 9;let c a+b;");
        x.rule(0, 0, NONE, 4);
        Checks.record(x, 0, 0, 9, 5);
        Checks.record(x, 0, 0, 1, 5);
        x.impute(0, 1);
        x.rule(0, 1, NONE, -1);
        CHECKS.refused("24 no set, way 0", Checks.STATE, () -> x.impute(0, 0));
        CHECKS.refused("24 no set, way 1", Checks.STATE, () -> x.impute(0, 1));
        CHECKS.refused("24 no way", Checks.ARGUMENT, () -> x.impute(0, 2));
        items("24 refused: the items", x, 0, 1, 5, 6);
        marks("24 refused: the marks", x, 0, 2, 0, 0);
    }

    private static void imputeOfTheEmptySet() {
        CensusOffice x = Checks.office("ask a 0 9;ask b 0 9;");
        x.rule(0, 0, NONE, 4);
        Checks.record(x, 0, 0, 4, 9);
        Checks.record(x, 0, 0, 1, 1);
        CHECKS.due("24 no item, way 0", 0, () -> x.impute(0, 0));
        CHECKS.due("24 no item, way 1", 0, () -> x.impute(0, 1));
        items("24 nothing changed", x, 0, 4, 9);
        marks("24 no marks", x, 0, 0, 0);
    }

    private static void greatestDownToTheLeast() {
        CensusOffice x = Checks.office("ask a -3 9;ask b 0 9;ask c 5 9;");
        x.rule(0, 0, 1, -3);
        x.rule(0, 1, NONE, 0);
        Checks.record(x, 0, 0, 9, 9, 9);
        CHECKS.due("24 a and b", 2, () -> x.impute(0, 0));
        items("18 both at their least answers", x, 0, -3, 0, 9);
        x.rule(0, 2, NONE, 5);
        CHECKS.due("24 c", 1, () -> x.impute(0, 0));
        items("18 c at its least answer", x, 0, -3, 0, 5);
        x.rule(0, 2, NONE, 4);
        CHECKS.refused("24 below it there is no set", Checks.STATE, () -> x.impute(0, 0));
    }

    private static void donorThatFits() {
        CensusOffice x = Checks.office("ask a 0 9;ask b 0 9;");
        x.rule(0, 0, 1, 0);
        Checks.record(x, 0, 0, 9, 5);
        Checks.record(x, 0, 0, 6, 6);
        Checks.record(x, 0, 0, 5, 8);
        Checks.record(x, 0, 0, 4, 9);
        CHECKS.due("24 the set is a", 1, () -> x.impute(0, 1));
        items("18 the nearest one is one too great, the next just fits", x, 0, 5, 5);
        marks("19 by a DONOR", x, 0, 2, 0);
    }

    private static void donorOfTheSameDistance() {
        CensusOffice x = Checks.office("ask a 0 9;ask b 0 9;");
        x.rule(0, 0, NONE, 5);
        Checks.record(x, 0, 0, 1, 2);
        Checks.record(x, 0, 0, 2, 8);
        Checks.record(x, 0, 0, 9, 5);
        Checks.record(x, 0, 0, 3, 8);
        Checks.record(x, 0, 0, 4, 2);
        CHECKS.due("24 four at the distance 3", 1, () -> x.impute(2, 1));
        items("18 the lesser number", x, 2, 1, 5);
        Checks.record(x, 0, 0, 5, 3);
        Checks.record(x, 0, 0, 8, 5);
        CHECKS.due("24 the mended one is at 0", 1, () -> x.impute(6, 1));
        items("18 the least distance", x, 6, 1, 5);
    }

    private static void distanceOverOtherAsksAlone() {
        CensusOffice x = Checks.office("ask a 0 9;ask b 0 9;ask c 0 9;let d b+b;");
        x.rule(0, 0, NONE, 5);
        Checks.record(x, 0, 0, 9, 5, 5);
        Checks.record(x, 0, 0, 2, 5, 8);
        Checks.record(x, 0, 0, 1, 7, 5);
        CHECKS.due("24 lets are not in the DISTANCE", 1, () -> x.impute(0, 1));
        items("18 the one at 2, not the one at 3", x, 0, 1, 5, 5, 10);
        CensusOffice y = Checks.office("ask a 0 9;ask b 0 9;");
        y.rule(0, 0, NONE, 5);
        Checks.record(y, 0, 0, 9, 5);
        Checks.record(y, 0, 0, 5, 7);
        Checks.record(y, 0, 0, 1, 6);
        CHECKS.due("24 nor are the asks of the set", 1, () -> y.impute(0, 1));
        items("18 the one at 1, not the one at 2", y, 0, 1, 5);
    }

    private static void distanceOfSizes() {
        CensusOffice x = Checks.office("ask a 0 9;ask b 0 9;ask c 0 9;");
        x.rule(0, 0, NONE, 5);
        Checks.record(x, 0, 0, 9, 5, 5);
        Checks.record(x, 0, 0, 2, 1, 9);
        Checks.record(x, 0, 0, 1, 4, 4);
        CHECKS.due("24 sizes do not make up for one another", 1, () -> x.impute(0, 1));
        items("18 the one at 2, not the one at 8", x, 0, 1, 5, 5);
        CensusOffice y = Checks.office("ask a 0 9;ask b -999999 999999;ask c -999999 999999;");
        y.rule(0, 0, NONE, 5);
        Checks.record(y, 0, 0, 9, -999999, -999999);
        Checks.record(y, 0, 0, 2, 999999, 999999);
        Checks.record(y, 0, 0, 1, 999999, 999998);
        CHECKS.due("24 great sizes", 1, () -> y.impute(0, 1));
        items("18 the one that is nearer by 1", y, 0, 1, -999999, -999999);
    }

    private static void donorsThatAreNone() {
        CensusOffice x = Checks.office("ask a 0 9;ask b 0 9;ask c 0 9 if b<>1;");
        Checks.form(x, "ask a 0 9;ask b 0 9;ask c 0 9;");
        x.rule(0, 2, NONE, 5);
        x.rule(0, 0, NONE, 8);
        Checks.record(x, 0, 0, 3, 3, 9);
        CHECKS.due("24 no other record", 1, () -> x.impute(0, 1));
        items("18 as by way 0", x, 0, 3, 3, 5);
        marks("19 as by way 0", x, 0, 0, 0, 1);
        Checks.record(x, 0, 0, 3, 3, 8);
        Checks.record(x, 0, 0, 9, 3, 2);
        Checks.record(x, 0, 0, 3, 1);
        Checks.record(x, 1, 0, 3, 3, 4);
        Checks.record(x, 0, 0, 9, 9, 9);
        x.rule(0, 2, NONE, 4);
        CHECKS.due("24 one breaks a rule, one has it ABSENT, one is of another form", 1, () -> x.impute(1, 1));
        items("18 as by way 0", x, 1, 3, 3, 4);
        marks("19 as by way 0", x, 1, 0, 0, 1);
    }

    private static void donorsNumberOfBefore() {
        CensusOffice x = Checks.office("ask a 0 9;ask b 0 9;");
        x.rule(0, 0, NONE, 5);
        Checks.record(x, 0, 0, 5, 5);
        Checks.record(x, 0, 0, 9, 5);
        CHECKS.due("24 at its greatest already by a DONOR", 1, () -> x.impute(1, 1));
        items("18 5", x, 1, 5, 5);
        marks("19 MARK 2, though way 0 would give the same", x, 1, 2, 0);
        marks("19 the DONOR keeps its own", x, 0, 0, 0);
    }

    private static void marksOfTheSetAlone() {
        CensusOffice x = Checks.office("ask a 0 9;ask b 0 9;let c a+b;");
        x.rule(0, 0, NONE, 5);
        Checks.record(x, 0, 0, 5, 5);
        Checks.record(x, 0, 0, 9, 9);
        x.impute(1, 1);
        marks("19 a by a DONOR", x, 1, 2, 0, 0);
        x.rule(0, 1, NONE, 4);
        CHECKS.due("24 b", 1, () -> x.impute(1, 0));
        marks("19 a keeps its MARK", x, 1, 2, 1, 0);
        items("18 the let anew", x, 1, 5, 4, 9);
        x.rule(0, 0, NONE, 3);
        CHECKS.due("24 a again", 1, () -> x.impute(1, 0));
        marks("19 as IMPUTED last", x, 1, 1, 1, 0);
    }

    private static void letsBeyondMillion() {
        CensusOffice x = Checks.office("ask a 0 9;let b a+999995;let c b-b+1;let d 1 if b>0;ask e 0 9 if a>5;ask f 0 9 if a<5;");
        x.rule(0, NONE, 0, -5);
        Checks.record(x, 0, 0, 3, 7);
        items("18 it was", x, 0, 3, 999998, 1, 1, ABSENT, 7);
        CHECKS.due("24 a", 1, () -> x.impute(0, 0));
        items("18 a let beyond 1000000, asks as they were", x, 0, 9, ABSENT, ABSENT, ABSENT, ABSENT, 7);
        x.rule(0, 0, NONE, 5);
        CHECKS.due("24 a again", 1, () -> x.impute(0, 0));
        items("18 a let at 1000000", x, 0, 5, 1000000, 1, 1, ABSENT, 7);
    }
}
