/**
 * THE CLOCK, THE REGISTER and promises 1 to 7: each sentence that names an edge has a method of its
 * own here, with the last input that is taken and the first that is refused. No object is used for
 * more than 512 calls.
 */
public final class RegisterEdgeTest {
    private static final int ABSENT = CensusOffice.ABSENT;
    private static final int LEAST = Integer.MIN_VALUE;
    private static final int MOST = Integer.MAX_VALUE;
    private static final Checks CHECKS = new Checks("RegisterEdgeTest");

    public static void main(String[] args) {
        newObjectHasNothing();
        newObjectTakesWhatNeedsNothing();
        objectsAreApart();
        tickTakesNoneToMillion();
        tickStopsAtHundredMillion();
        tickStopsShortOfIt();
        dayIsRoundedDown();
        unitsAreHundred();
        tellTakesUnits();
        tellTakesFields();
        tellTakesDays();
        tellTakesNumbers();
        tellRefusesMergedOnes();
        tellRefusesInOrder();
        tellRefusedChangesNothing();
        toldOnTheDayOfThen();
        mergeTakesUnits();
        mergeGoesIntoOneAtMost();
        mergeRefusesTheSameLast();
        mergeRefusesInOrder();
        mergeRefusedChangesNothing();
        longestChain();
        valueTakesUnitsAndFields();
        valueTakesDays();
        valueFromThatDayOn();
        valueOfTheGreatestDay();
        valueToldLast();
        valueAsKnown();
        valueByMergesAsKnown();
        valueByMergesInAnyOrder();
        lastTakesUnits();
        CHECKS.end();
    }

    private static CensusOffice units(int count) {
        CensusOffice x = new CensusOffice();
        for (int k = 0; k < count; k++) {
            x.unit();
        }
        return x;
    }

    // ---- 1: a new object

    private static void newObjectHasNothing() {
        CensusOffice x = new CensusOffice();
        CHECKS.row("1 nothing, minute 0", new int[15], k -> x.told(k));
        CHECKS.allRefused("1 no unit", Checks.INDEX, () -> x.last(0), () -> x.tell(0, 0, 0, 0),
                () -> x.merge(0, 0), () -> x.value(0, 0, 0, 0));
        CHECKS.allRefused("1 no form", Checks.INDEX, () -> x.statement(0, 0, 0), () -> x.open(0, 0),
                () -> x.rule(0, -1, -1, 0), () -> x.cost(0, 0, 1), () -> x.table(0, 0, 1, -1, -1));
        CHECKS.allRefused("1 no session", Checks.INDEX, () -> x.question(0), () -> x.answer(0, 0),
                () -> x.back(0), () -> x.given(0, 0, false), () -> x.close(0));
        CHECKS.allRefused("1 no record", Checks.INDEX, () -> x.item(0, 0), () -> x.mark(0, 0),
                () -> x.broken(0, -1), () -> x.least(0, true), () -> x.impute(0, 0));
        CHECKS.allRefused("1 no sample", Checks.INDEX, () -> x.drawn(0, 0), () -> x.chance(0, 0, true),
                () -> x.overlap(0, 0));
        CHECKS.allRefused("1 no table", Checks.INDEX, () -> x.cell(0, 0, 0, 0), () -> x.secrecy(0, 0, 0, 0),
                () -> x.secret(0, 0, 0), () -> x.interval(0, 0, 0, true), () -> x.round(0, 1));
        CHECKS.allRefused("1 no person, release, look", Checks.INDEX, () -> x.release(0, 0, 0),
                () -> x.look(0, 0, 0, 0), () -> x.looked(0, 0));
        CHECKS.row("1 still nothing", new int[15], k -> x.told(k));
    }

    private static void newObjectTakesWhatNeedsNothing() {
        CensusOffice x = new CensusOffice();
        CHECKS.due("1 an empty tape keeps nothing", 0, () -> x.trim(0));
        CHECKS.due("1 an empty tape is no form", -1, () -> x.form());
        CHECKS.due("1 a sample of nobody", 0, () -> x.sample(0, 0, 0, 0, 0, 0));
        CHECKS.due("1 the first person", 0, () -> x.person(0));
        CHECKS.due("1 the first unit", 0, () -> x.unit());
        CHECKS.due("1 the clock stands", 0, () -> x.tick(0));
    }

    private static void objectsAreApart() {
        CensusOffice x = units(2);
        x.tick(5);
        x.feed(0, 0, 0, 0, 0);
        CensusOffice y = new CensusOffice();
        CHECKS.row("1 another object has nothing", new int[15], k -> y.told(k));
        CHECKS.due("1 the first one has its units", 2, () -> x.told(0));
    }

    // ---- 2: the clock

    private static void tickTakesNoneToMillion() {
        CensusOffice x = new CensusOffice();
        CHECKS.refusedFor("2 n is not 0 .. 1000000", Checks.ARGUMENT, n -> x.tick(n), -1, LEAST, 1000001, MOST);
        CHECKS.due("2 refused: nothing changed", 0, () -> x.told(13));
        CHECKS.due("2 n = 0", 0, () -> x.tick(0));
        CHECKS.due("2 n = 1", 1, () -> x.tick(1));
        CHECKS.due("2 n = 1000000", 1000001, () -> x.tick(1000000));
    }

    private static void tickStopsAtHundredMillion() {
        CensusOffice x = new CensusOffice();
        for (int k = 1; k <= 99; k++) {
            x.tick(1000000);
        }
        CHECKS.due("2 to 100000000", 100000000, () -> x.tick(1000000));
        CHECKS.refusedFor("2 more than 100000000", Checks.ARGUMENT, n -> x.tick(n), 1, 1000000, MOST, -1);
        CHECKS.due("2 refused: the minute stays", 100000000, () -> x.told(13));
        CHECKS.due("2 the last DAY", 69444, () -> x.told(14));
        CHECKS.due("2 n = 0 at the end", 100000000, () -> x.tick(0));
    }

    private static void tickStopsShortOfIt() {
        CensusOffice x = new CensusOffice();
        for (int k = 1; k <= 99; k++) {
            x.tick(1000000);
        }
        x.tick(1);
        CHECKS.refused("2 to 100000001", Checks.ARGUMENT, () -> x.tick(1000000));
        CHECKS.due("2 refused: nothing changed", 99000001, () -> x.told(13));
        CHECKS.due("2 to 100000000, less at once", 100000000, () -> x.tick(999999));
    }

    private static void dayIsRoundedDown() {
        CensusOffice x = new CensusOffice();
        int[] minutes = {0, 1, 1439, 1440, 1441, 2879, 2880, 1000000};
        int[] days = {0, 0, 0, 1, 1, 1, 2, 694};
        for (int k = 0; k < minutes.length; k++) {
            x.tick(minutes[k] - x.told(13));
            CHECKS.due("39 the DAY of minute " + minutes[k], days[k], () -> x.told(14));
        }
    }

    // ---- 3: units

    private static void unitsAreHundred() {
        CensusOffice x = units(99);
        CHECKS.due("3 the 100th", 99, () -> x.unit());
        CHECKS.refused("3 no 101st", Checks.ROOM, () -> x.unit());
        CHECKS.refused("3 none later either", Checks.ROOM, () -> x.unit());
        CHECKS.due("3 refused: still 100", 100, () -> x.told(0));
        x.merge(99, 98);
        CHECKS.refused("3 a merge makes no room", Checks.ROOM, () -> x.unit());
    }

    // ---- 4: tellings

    private static void tellTakesUnits() {
        CensusOffice x = units(3);
        CHECKS.refusedFor("4 no such unit", Checks.INDEX, u -> x.tell(u, 0, 0, 0), -1, 3, LEAST, MOST);
        CHECKS.due("4 the first unit", 1, () -> x.tell(0, 0, 0, 0));
        CHECKS.due("4 the last unit", 2, () -> x.tell(2, 0, 0, 0));
    }

    private static void tellTakesFields() {
        CensusOffice x = units(1);
        CHECKS.refusedFor("4 no such field", Checks.INDEX, f -> x.tell(0, f, 0, 0), -1, 6, LEAST, MOST);
        CHECKS.row("4 fields 0 .. 5", new int[] {1, 2, 3, 4, 5, 6}, f -> x.tell(0, f, 0, f * 10));
        CHECKS.row("6 each field has its own", new int[] {0, 10, 20, 30, 40, 50}, f -> x.value(0, f, 0, 0));
    }

    private static void tellTakesDays() {
        CensusOffice x = units(1);
        CHECKS.refusedFor("4 a day is 0 .. 100000", Checks.ARGUMENT, d -> x.tell(0, 0, d, 7), -1, 100001, LEAST, MOST);
        CHECKS.due("4 refused: no TELLING", 0, () -> x.told(1));
        CHECKS.due("4 day 100000", 1, () -> x.tell(0, 0, 100000, 7));
        CHECKS.due("6 not on day 99999", ABSENT, () -> x.value(0, 0, 99999, 0));
        CHECKS.due("6 on day 100000", 7, () -> x.value(0, 0, 100000, 0));
        CHECKS.due("4 day 0", 2, () -> x.tell(0, 0, 0, 8));
        CHECKS.due("6 on day 0", 8, () -> x.value(0, 0, 0, 0));
    }

    private static void tellTakesNumbers() {
        CensusOffice x = units(1);
        CHECKS.refusedFor("4 a number is -1000000 .. 1000000", Checks.ARGUMENT, v -> x.tell(0, 0, 0, v),
                -1000001, 1000001, ABSENT, LEAST, MOST);
        CHECKS.due("4 refused: no TELLING", 0, () -> x.told(1));
        CHECKS.due("4 -1000000", 1, () -> x.tell(0, 0, 0, -1000000));
        CHECKS.due("6 -1000000", -1000000, () -> x.value(0, 0, 0, 0));
        CHECKS.due("4 1000000", 2, () -> x.tell(0, 0, 0, 1000000));
        CHECKS.due("6 1000000", 1000000, () -> x.value(0, 0, 0, 0));
    }

    private static void tellRefusesMergedOnes() {
        CensusOffice x = units(2);
        CHECKS.due("4 ahead of the merge", 1, () -> x.tell(0, 0, 0, 1));
        x.merge(0, 1);
        CHECKS.refused("4 the unit went into another one", Checks.STATE, () -> x.tell(0, 0, 0, 2));
        CHECKS.due("4 the one that it went into", 2, () -> x.tell(1, 0, 0, 3));
    }

    private static void tellRefusesInOrder() {
        CensusOffice x = units(2);
        x.merge(0, 1);
        CHECKS.allRefused("4 an index ahead of all", Checks.INDEX, () -> x.tell(2, 0, -1, 2000000),
                () -> x.tell(-1, 6, -1, 2000000), () -> x.tell(0, 6, -1, 2000000), () -> x.tell(0, -1, 0, 0));
        CHECKS.allRefused("4 an argument ahead of the state", Checks.ARGUMENT, () -> x.tell(0, 0, -1, 0),
                () -> x.tell(0, 0, 100001, 0), () -> x.tell(0, 0, 0, 1000001), () -> x.tell(0, 0, 0, -1000001));
        CHECKS.refused("4 the state", Checks.STATE, () -> x.tell(0, 0, 0, 0));
    }

    private static void tellRefusedChangesNothing() {
        CensusOffice x = units(2);
        x.tell(1, 0, 0, 5);
        x.merge(0, 1);
        CHECKS.refused("4 merged", Checks.STATE, () -> x.tell(0, 0, 3, 9));
        CHECKS.refused("4 day", Checks.ARGUMENT, () -> x.tell(1, 0, -3, 9));
        CHECKS.due("4 refused: the count", 1, () -> x.told(1));
        CHECKS.due("4 refused: the VALUE", 5, () -> x.value(0, 0, 9, 9));
        CHECKS.due("4 the next one is the second", 2, () -> x.tell(1, 0, 0, 6));
    }

    private static void toldOnTheDayOfThen() {
        CensusOffice x = units(1);
        x.tick(1439);
        x.tell(0, 0, 0, 1);
        x.tick(1);
        x.tell(0, 0, 0, 2);
        CHECKS.due("4 the last minute of day 0", 1, () -> x.value(0, 0, 0, 0));
        CHECKS.due("4 the first minute of day 1", 2, () -> x.value(0, 0, 0, 1));
    }

    // ---- 5: merges

    private static void mergeTakesUnits() {
        CensusOffice x = units(3);
        CHECKS.refusedFor("5 no such unit", Checks.INDEX, u -> x.merge(u, 0), -1, 3, LEAST, MOST);
        CHECKS.refusedFor("5 none to go into", Checks.INDEX, u -> x.merge(0, u), -1, 3, LEAST, MOST);
        CHECKS.due("5 the first into the last", 2, () -> x.merge(0, 2));
        CHECKS.due("5 the last into one between", 1, () -> x.merge(2, 1));
        CHECKS.due("39 two MERGES", 2, () -> x.told(2));
    }

    private static void mergeGoesIntoOneAtMost() {
        CensusOffice x = units(4);
        x.merge(0, 1);
        CHECKS.refused("5 it went into another one already", Checks.STATE, () -> x.merge(0, 2));
        CHECKS.refused("5 the very same merge again", Checks.STATE, () -> x.merge(0, 1));
        CHECKS.due("5 another one goes into it", 1, () -> x.merge(2, 0));
        CHECKS.due("5 that one goes on", 3, () -> x.merge(1, 3));
    }

    private static void mergeRefusesTheSameLast() {
        CensusOffice x = units(3);
        CHECKS.refused("5 a unit into itself", Checks.STATE, () -> x.merge(0, 0));
        x.merge(0, 1);
        CHECKS.refused("5 into one that went into it", Checks.STATE, () -> x.merge(1, 0));
        x.merge(1, 2);
        CHECKS.refused("5 into one that went into it by another one", Checks.STATE, () -> x.merge(2, 0));
        CHECKS.due("5 refused: two MERGES", 2, () -> x.told(2));
    }

    private static void mergeRefusesInOrder() {
        CensusOffice x = units(2);
        x.merge(0, 1);
        CHECKS.refused("5 an index ahead of the state", Checks.INDEX, () -> x.merge(0, 2));
        CHECKS.refused("5 an index ahead of the same LAST", Checks.INDEX, () -> x.merge(2, 2));
    }

    private static void mergeRefusedChangesNothing() {
        CensusOffice x = units(3);
        x.merge(0, 1);
        CHECKS.refused("5 already", Checks.STATE, () -> x.merge(0, 2));
        CHECKS.refused("5 same", Checks.STATE, () -> x.merge(1, 0));
        CHECKS.row("5 refused: each LAST stays", new int[] {1, 1, 2}, u -> x.last(u));
        CHECKS.due("5 refused: one MERGE", 1, () -> x.told(2));
        CHECKS.due("4 refused: unit 1 is told of", 1, () -> x.tell(1, 0, 0, 0));
    }

    private static void longestChain() {
        CensusOffice x = units(100);
        x.tell(99, 0, 0, 5);
        x.tell(0, 1, 0, 6);
        for (int k = 0; k < 99; k++) {
            x.merge(k, k + 1);
        }
        CHECKS.due("39 99 MERGES", 99, () -> x.told(2));
        CHECKS.due("7 the LAST at the end of all", 99, () -> x.last(0));
        CHECKS.due("7 the LAST itself", 99, () -> x.last(99));
        CHECKS.due("6 of the first by the last", 5, () -> x.value(0, 0, 0, 0));
        CHECKS.due("6 of the last by the first", 6, () -> x.value(99, 1, 0, 0));
        CHECKS.refused("5 the last has nowhere to go", Checks.STATE, () -> x.merge(99, 0));
    }

    // ---- 6: values

    private static void valueTakesUnitsAndFields() {
        CensusOffice x = units(2);
        x.tell(0, 0, 0, 1);
        x.tell(1, 5, 0, 2);
        CHECKS.refusedFor("6 no such unit", Checks.INDEX, u -> x.value(u, 0, 0, 0), -1, 2, LEAST, MOST);
        CHECKS.refusedFor("6 no such field", Checks.INDEX, f -> x.value(0, f, 0, 0), -1, 6, LEAST, MOST);
        CHECKS.due("6 the first of both", 1, () -> x.value(0, 0, 0, 0));
        CHECKS.due("6 the last of both", 2, () -> x.value(1, 5, 0, 0));
    }

    private static void valueTakesDays() {
        CensusOffice x = units(1);
        x.tell(0, 0, 0, 4);
        CHECKS.refusedFor("6 a day below 0", Checks.ARGUMENT, d -> x.value(0, 0, d, 0), -1, LEAST);
        CHECKS.refusedFor("6 a day of knowing below 0", Checks.ARGUMENT, d -> x.value(0, 0, 0, d), -1, LEAST);
        CHECKS.allRefused("6 an index ahead of a day", Checks.INDEX, () -> x.value(1, 0, -1, -1),
                () -> x.value(0, 6, -1, -1));
        CHECKS.due("6 day 0, known on day 0", 4, () -> x.value(0, 0, 0, 0));
        CHECKS.due("6 beyond the days of TELLINGS", 4, () -> x.value(0, 0, 100001, 100001));
        CHECKS.due("6 the greatest days", 4, () -> x.value(0, 0, MOST, MOST));
    }

    private static void valueFromThatDayOn() {
        CensusOffice x = units(1);
        x.tell(0, 0, 10, 4);
        CHECKS.due("6 a day ahead: ABSENT", ABSENT, () -> x.value(0, 0, 9, 0));
        CHECKS.due("6 from that day on", 4, () -> x.value(0, 0, 10, 0));
        CHECKS.due("6 and behind it", 4, () -> x.value(0, 0, 11, 0));
    }

    private static void valueOfTheGreatestDay() {
        CensusOffice x = units(1);
        x.tell(0, 0, 10, 4);
        x.tell(0, 0, 9, 5);
        x.tell(0, 0, 11, 6);
        x.tell(0, 0, 0, 7);
        CHECKS.due("6 told later, of a lesser day", 5, () -> x.value(0, 0, 9, 0));
        CHECKS.due("6 the greatest day, though told first", 4, () -> x.value(0, 0, 10, 0));
        CHECKS.due("6 a greater one", 6, () -> x.value(0, 0, 11, 0));
        CHECKS.due("6 the least one", 7, () -> x.value(0, 0, 8, 0));
    }

    private static void valueToldLast() {
        CensusOffice x = units(2);
        x.tell(0, 0, 10, 4);
        x.tell(1, 0, 10, 5);
        x.tell(0, 0, 10, 6);
        x.tell(0, 0, 10, 6);
        x.tell(1, 0, 10, 3);
        CHECKS.due("6 of the same day the one told last", 6, () -> x.value(0, 0, 10, 0));
        x.merge(0, 1);
        CHECKS.due("6 told last of both units", 3, () -> x.value(0, 0, 10, 0));
        x.tell(1, 0, 10, ABSENT / 2);
        CHECKS.due("6 the least number told last", -1000000, () -> x.value(0, 0, 10, 0));
    }

    private static void valueAsKnown() {
        CensusOffice x = units(1);
        x.tick(1440 * 3);
        x.tell(0, 0, 0, 4);
        x.tick(1440 * 2);
        x.tell(0, 0, 0, 5);
        CHECKS.row("6 told on that day or ahead of it", new int[] {ABSENT, ABSENT, ABSENT, 4, 4, 5, 5},
                known -> x.value(0, 0, 0, known));
        CHECKS.due("6 on a day that is not yet", 5, () -> x.value(0, 0, 0, 1000));
    }

    private static void valueByMergesAsKnown() {
        CensusOffice x = units(2);
        x.tell(0, 0, 0, 4);
        x.tell(1, 0, 1, 5);
        x.tick(1440 * 2);
        x.merge(0, 1);
        CHECKS.row("6 of the one that went, by day of knowing", new int[] {4, 4, 5, 5},
                known -> x.value(0, 0, 1, known));
        CHECKS.row("6 of the one that it went into", new int[] {ABSENT, ABSENT, 4, 4},
                known -> x.value(1, 0, 0, known));
        CHECKS.due("7 the LAST of now", 1, () -> x.last(0));
    }

    private static void valueByMergesInAnyOrder() {
        CensusOffice x = units(3);
        x.tell(0, 0, 0, 10);
        x.tell(1, 0, 0, 11);
        x.tell(2, 0, 0, 12);
        x.tick(1440);
        x.merge(1, 2);
        x.tick(1440);
        CHECKS.due("5 into one that went on a day ahead", 2, () -> x.merge(0, 1));
        CHECKS.row("6 of 0", new int[] {10, 10, 12}, known -> x.value(0, 0, 0, known));
        CHECKS.row("6 of 1", new int[] {11, 12, 12}, known -> x.value(1, 0, 0, known));
        CHECKS.row("6 of 2", new int[] {12, 12, 12}, known -> x.value(2, 0, 0, known));
    }

    // ---- 7: lasts

    private static void lastTakesUnits() {
        CensusOffice x = units(3);
        CHECKS.refusedFor("7 no such unit", Checks.INDEX, u -> x.last(u), -1, 3, LEAST, MOST);
        x.merge(0, 2);
        CHECKS.row("7 itself, or the one that it went into", new int[] {2, 1, 2}, u -> x.last(u));
    }
}
