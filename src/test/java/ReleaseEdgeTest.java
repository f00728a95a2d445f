/**
 * RELEASES and promises 35 to 39: each sentence that names an edge has a method of its own here,
 * with the last input that is taken and the first that is refused.
 */
public final class ReleaseEdgeTest {
    private static final int NONE = CensusOffice.NONE;
    private static final int NOT_YET = CensusOffice.NOT_YET;
    private static final int NO_RIGHT = CensusOffice.NO_RIGHT;
    private static final int SECRET = CensusOffice.SECRET;
    private static final int LEAST = Integer.MIN_VALUE;
    private static final int MOST = Integer.MAX_VALUE;
    private static final Checks CHECKS = new Checks("ReleaseEdgeTest");

    public static void main(String[] args) {
        personTakesRoles();
        personsAreTwelve();
        releaseTakesPersonsAndTables();
        releaseByMakersAlone();
        releaseTakesMinutes();
        releaseAtTheLastMinute();
        releasesAreTwelve();
        releaseRefusesInOrder();
        releaseRefusedChangesNothing();
        lookTakesPersonsAndReleases();
        lookTakesRowsAndColumns();
        lookAtOneByOne();
        lookAheadOfTheMinute();
        lookOfWhoMadeIt();
        lookByRoles();
        lookAnswersInOrder();
        sumsAreNotSecret();
        sumsOfWhatTheCellsAre();
        looksAreFiveHundred();
        lookRefusedIsNoRow();
        lookedTakesLooks();
        lookedTakesWhat();
        lookedAtTheMinuteOfThen();
        toldTakesWhat();
        CHECKS.end();
    }

    /** One table of 5 9, 20 30, of which 5 is of one record and the others of two. */
    private static CensusOffice office() {
        CensusOffice x = Checks.office("ask r 0 1;ask c 0 1;ask m 0 99;");
        int[][] records = {{0, 0, 5}, {0, 1, 9}, {0, 1, 0}, {1, 0, 20}, {1, 0, 0}, {1, 1, 30}, {1, 1, 0}};
        for (int[] answers : records) {
            Checks.record(x, 0, 0, answers);
        }
        x.table(0, 0, 1, 2, NONE);
        return x;
    }

    // ---- 35: person

    private static void personTakesRoles() {
        CensusOffice x = new CensusOffice();
        CHECKS.refusedFor("35 ROLES are 0 .. 7", Checks.ARGUMENT, roles -> x.person(roles), -1, 8, LEAST, MOST);
        CHECKS.due("35 refused: nobody", 0, () -> x.told(9));
        CHECKS.row("35 ROLES 0 .. 7", new int[] {0, 1, 2, 3, 4, 5, 6, 7}, roles -> x.person(roles));
    }

    private static void personsAreTwelve() {
        CensusOffice x = new CensusOffice();
        for (int k = 0; k < 11; k++) {
            x.person(0);
        }
        CHECKS.due("35 the 12th", 11, () -> x.person(7));
        CHECKS.refused("35 no 13th", Checks.ROOM, () -> x.person(7));
        CHECKS.due("35 refused: twelve", 12, () -> x.told(9));
        CHECKS.refusedFor("35 an argument ahead of no room", Checks.ARGUMENT, roles -> x.person(roles), -1, 8);
    }

    // ---- 36: release

    private static void releaseTakesPersonsAndTables() {
        CensusOffice x = office();
        x.table(0, 0, 1, NONE, NONE);
        x.person(1);
        x.person(1);
        CHECKS.refusedFor("36 no such person", Checks.INDEX, p -> x.release(p, 0, 0), -1, 2, LEAST, MOST);
        CHECKS.refusedFor("36 no such table", Checks.INDEX, t -> x.release(0, t, 0), -1, 2, LEAST, MOST);
        CHECKS.due("36 the first ones", 0, () -> x.release(0, 0, 0));
        CHECKS.due("36 the last ones", 1, () -> x.release(1, 1, 0));
        CHECKS.due("37 of the first table", 64, () -> x.look(0, 0, 2, 2));
        CHECKS.due("37 of the last table", 7, () -> x.look(0, 1, 2, 2));
    }

    private static void releaseByMakersAlone() {
        CensusOffice x = office();
        int made = 0;
        for (int roles = 0; roles < 8; roles++) {
            int person = x.person(roles);
            if (roles % 2 == 1) {
                CHECKS.due("36 a maker, ROLES " + roles, made, () -> x.release(person, 0, 0));
                made++;
            } else {
                CHECKS.refused("36 no maker, ROLES " + roles, Checks.STATE, () -> x.release(person, 0, 0));
            }
        }
        CHECKS.due("39 four releases", 4, () -> x.told(10));
    }

    private static void releaseTakesMinutes() {
        CensusOffice x = office();
        x.person(1);
        CHECKS.refusedFor("36 below minute 0", Checks.ARGUMENT, m -> x.release(0, 0, m), -1, LEAST);
        CHECKS.due("36 minute 0 at minute 0", 0, () -> x.release(0, 0, 0));
        x.tick(10);
        CHECKS.refusedFor("36 the minute is over", Checks.ARGUMENT, m -> x.release(0, 0, m), 9, 0, -1, LEAST);
        CHECKS.due("36 the minute of now", 1, () -> x.release(0, 0, 10));
        CHECKS.due("36 the next one", 2, () -> x.release(0, 0, 11));
        CHECKS.due("36 one that never comes", 3, () -> x.release(0, 0, MOST));
    }

    private static void releaseAtTheLastMinute() {
        CensusOffice x = office();
        x.person(1);
        x.person(2);
        for (int k = 0; k < 100; k++) {
            x.tick(1000000);
        }
        CHECKS.refused("36 a minute ahead of the last one", Checks.ARGUMENT, () -> x.release(0, 0, 99999999));
        CHECKS.due("36 the last minute", 0, () -> x.release(0, 0, 100000000));
        CHECKS.due("36 one behind it", 1, () -> x.release(0, 0, 100000001));
        CHECKS.due("37 the last minute", 64, () -> x.look(1, 0, 2, 2));
        CHECKS.due("37 one behind it", NOT_YET, () -> x.look(1, 1, 2, 2));
        CHECKS.due("38 at the last minute", 100000000, () -> x.looked(0, 5));
    }

    private static void releasesAreTwelve() {
        CensusOffice x = office();
        x.person(1);
        for (int k = 0; k < 11; k++) {
            x.release(0, 0, 0);
        }
        CHECKS.due("36 the 12th", 11, () -> x.release(0, 0, 0));
        CHECKS.refused("36 no 13th", Checks.ROOM, () -> x.release(0, 0, 0));
        CHECKS.due("36 refused: twelve", 12, () -> x.told(10));
        CHECKS.due("37 the last one", 5, () -> x.look(0, 11, 0, 0));
        CHECKS.refused("37 none behind it", Checks.INDEX, () -> x.look(0, 12, 0, 0));
    }

    private static void releaseRefusesInOrder() {
        CensusOffice x = office();
        x.person(1);
        x.person(6);
        x.tick(5);
        CHECKS.allRefused("36 an index ahead of all", Checks.INDEX, () -> x.release(2, 0, 0), () -> x.release(1, 1, 0),
                () -> x.release(0, -1, 0));
        CHECKS.refused("36 no maker ahead of the minute", Checks.STATE, () -> x.release(1, 0, 4));
        CHECKS.refused("36 the minute", Checks.ARGUMENT, () -> x.release(0, 0, 4));
        for (int k = 0; k < 12; k++) {
            x.release(0, 0, 5);
        }
        CHECKS.allRefused("36 an index ahead of no room", Checks.INDEX, () -> x.release(2, 0, 5), () -> x.release(0, 1, 5));
        CHECKS.refused("36 no maker ahead of no room", Checks.STATE, () -> x.release(1, 0, 5));
        CHECKS.refused("36 the minute ahead of no room", Checks.ARGUMENT, () -> x.release(0, 0, 4));
        CHECKS.refused("36 no room", Checks.ROOM, () -> x.release(0, 0, 5));
    }

    private static void releaseRefusedChangesNothing() {
        CensusOffice x = office();
        x.person(1);
        x.person(2);
        x.tick(5);
        CHECKS.refused("36 no maker", Checks.STATE, () -> x.release(1, 0, 5));
        CHECKS.refused("36 the minute", Checks.ARGUMENT, () -> x.release(0, 0, 4));
        CHECKS.due("36 refused: no release", 0, () -> x.told(10));
        CHECKS.due("36 the first one", 0, () -> x.release(0, 0, 5));
    }

    // ---- 37: look

    private static void lookTakesPersonsAndReleases() {
        CensusOffice x = office();
        x.person(1);
        x.person(2);
        x.release(0, 0, 0);
        x.secrecy(0, 2, 100, 0);
        x.release(0, 0, 0);
        CHECKS.refusedFor("37 no such person", Checks.INDEX, p -> x.look(p, 0, 0, 0), -1, 2, LEAST, MOST);
        CHECKS.refusedFor("37 no such release", Checks.INDEX, r -> x.look(0, r, 0, 0), -1, 2, LEAST, MOST);
        CHECKS.due("37 the first ones", 5, () -> x.look(0, 0, 0, 0));
        CHECKS.due("37 the last ones", SECRET, () -> x.look(1, 1, 0, 0));
    }

    private static void lookTakesRowsAndColumns() {
        CensusOffice x = office();
        x.person(1);
        x.release(0, 0, 0);
        CHECKS.refusedFor("37 no such row", Checks.INDEX, r -> x.look(0, 0, r, 0), -1, 3, LEAST, MOST);
        CHECKS.refusedFor("37 no such column", Checks.INDEX, c -> x.look(0, 0, 0, c), -1, 3, LEAST, MOST);
        CHECKS.due("37 refused: no row of a look", 0, () -> x.told(11));
        CHECKS.row("37 cells, rows, columns, the whole", new int[] {5, 9, 14, 20, 30, 50, 25, 39, 64},
                k -> x.look(0, 0, k / 3, k % 3));
    }

    private static void lookAtOneByOne() {
        CensusOffice x = Checks.office("ask r 5 5;ask c 5 5;");
        x.person(3);
        x.table(0, 0, 1, NONE, NONE);
        x.release(0, 0, 0);
        CHECKS.row("37 an empty table", new int[] {0, 0, 0, 0}, k -> x.look(0, 0, k / 2, k % 2));
        CHECKS.refused("37 no row more", Checks.INDEX, () -> x.look(0, 0, 2, 0));
        CHECKS.refused("37 no column more", Checks.INDEX, () -> x.look(0, 0, 0, 2));
    }

    private static void lookAheadOfTheMinute() {
        CensusOffice x = office();
        x.person(1);
        x.person(2);
        x.release(0, 0, 7);
        CHECKS.due("37 long ahead of its minute", NOT_YET, () -> x.look(1, 0, 0, 0));
        x.tick(6);
        CHECKS.due("37 a minute ahead", NOT_YET, () -> x.look(1, 0, 0, 0));
        x.tick(1);
        CHECKS.due("37 at its minute", 5, () -> x.look(1, 0, 0, 0));
        x.tick(1);
        CHECKS.due("37 behind its minute", 5, () -> x.look(1, 0, 0, 0));
    }

    private static void lookOfWhoMadeIt() {
        CensusOffice x = office();
        x.secrecy(0, 2, 100, 0);
        x.person(1);
        x.person(1);
        x.person(5);
        x.release(0, 0, 7);
        x.release(2, 0, 7);
        CHECKS.due("37 who made it, ahead of its minute", 9, () -> x.look(0, 0, 0, 1));
        CHECKS.due("37 who made it, a secret cell", SECRET, () -> x.look(0, 0, 0, 0));
        CHECKS.due("37 another maker", NOT_YET, () -> x.look(1, 0, 0, 1));
        CHECKS.due("37 who made another one", NOT_YET, () -> x.look(0, 1, 0, 1));
        CHECKS.due("37 a keeper who made it", 5, () -> x.look(2, 1, 0, 0));
        CHECKS.due("37 a keeper who did not", NOT_YET, () -> x.look(2, 0, 0, 0));
    }

    private static void lookByRoles() {
        CensusOffice x = office();
        x.secrecy(0, 2, 100, 0);
        for (int roles = 0; roles < 8; roles++) {
            x.person(roles);
        }
        x.release(7, 0, 0);
        CHECKS.row("37 a secret cell by ROLES", new int[] {NO_RIGHT, SECRET, SECRET, SECRET, 5, 5, 5, 5},
                roles -> x.look(roles, 0, 0, 0));
        CHECKS.row("37 another cell by ROLES", new int[] {NO_RIGHT, 9, 9, 9, 9, 9, 9, 9}, roles -> x.look(roles, 0, 0, 1));
        CHECKS.row("37 the whole by ROLES", new int[] {NO_RIGHT, 64, 64, 64, 64, 64, 64, 64},
                roles -> x.look(roles, 0, 2, 2));
    }

    private static void lookAnswersInOrder() {
        CensusOffice x = office();
        x.secrecy(0, 2, 100, 0);
        x.person(1);
        x.person(0);
        x.release(0, 0, 1);
        CHECKS.due("37 NOT_YET ahead of NO_RIGHT", NOT_YET, () -> x.look(1, 0, 0, 0));
        x.tick(1);
        CHECKS.due("37 NO_RIGHT ahead of SECRET", NO_RIGHT, () -> x.look(1, 0, 0, 0));
        CHECKS.due("39 each is a row", 2, () -> x.told(11));
    }

    private static void sumsAreNotSecret() {
        CensusOffice x = office();
        CHECKS.due("31 no set is GOOD: all are secret", NONE, () -> x.secrecy(0, 2, 100, 1000));
        x.person(3);
        x.release(0, 0, 0);
        CHECKS.row("37 cells are, sums are not", new int[] {SECRET, SECRET, 14, SECRET, SECRET, 50, 25, 39, 64},
                k -> x.look(0, 0, k / 3, k % 3));
    }

    private static void sumsOfWhatTheCellsAre() {
        CensusOffice x = office();
        x.person(1);
        x.release(0, 0, 0);
        x.round(0, 10);
        x.release(0, 0, 0);
        x.round(0, 1);
        x.secrecy(0, 100, 100, 0);
        CHECKS.row("37 as they were", new int[] {5, 9, 14, 20, 30, 50, 25, 39, 64}, k -> x.look(0, 0, k / 3, k % 3));
        CHECKS.row("37 rounded ones as they were", new int[] {0, 10, 10, 20, 30, 50, 20, 40, 60},
                k -> x.look(0, 1, k / 3, k % 3));
    }

    private static void looksAreFiveHundred() {
        CensusOffice x = new CensusOffice();
        Checks.form(x, "ask r 0 0;ask c 0 0;");
        x.table(0, 0, 1, NONE, NONE);
        x.person(1);
        x.release(0, 0, 0);
        for (int k = 0; k < 499; k++) {
            x.look(0, 0, 0, 0);
        }
        CHECKS.due("37 the 500th", 0, () -> x.look(0, 0, 1, 1));
        CHECKS.refused("37 no 501st", Checks.ROOM, () -> x.look(0, 0, 0, 0));
        CHECKS.refused("37 an index ahead of no room", Checks.INDEX, () -> x.look(0, 0, 2, 0));
        CHECKS.due("37 refused: five hundred", 500, () -> x.told(11));
        CHECKS.due("38 the last one", 1, () -> x.looked(499, 2));
        CHECKS.refused("38 none behind it", Checks.INDEX, () -> x.looked(500, 2));
    }

    private static void lookRefusedIsNoRow() {
        CensusOffice x = office();
        x.person(1);
        x.release(0, 0, 0);
        x.look(0, 0, 0, 0);
        CHECKS.allRefused("37 refused", Checks.INDEX, () -> x.look(1, 0, 0, 0), () -> x.look(0, 1, 0, 0),
                () -> x.look(0, 0, 3, 0), () -> x.look(0, 0, 0, 3));
        CHECKS.due("37 refused: one row", 1, () -> x.told(11));
        CHECKS.row("38 it stays", new int[] {0, 0, 0, 0, 5, 0}, what -> x.looked(0, what));
    }

    // ---- 38, 39: looked, told

    private static void lookedTakesLooks() {
        CensusOffice x = office();
        x.person(1);
        x.release(0, 0, 0);
        CHECKS.refusedFor("38 no look yet", Checks.INDEX, k -> x.looked(k, 0), -1, 0, LEAST, MOST);
        x.look(0, 0, 0, 0);
        x.look(0, 0, 2, 1);
        CHECKS.refusedFor("38 no such look", Checks.INDEX, k -> x.looked(k, 0), -1, 2, LEAST, MOST);
        CHECKS.row("38 the first and the last", new int[] {5, 39}, k -> x.looked(k, 4));
    }

    private static void lookedTakesWhat() {
        CensusOffice x = office();
        x.person(1);
        x.person(2);
        x.release(0, 0, 0);
        x.release(0, 0, 0);
        x.tick(3);
        x.look(1, 1, 2, 1);
        CHECKS.refusedFor("38 what", Checks.ARGUMENT, what -> x.looked(0, what), -1, 6, LEAST, MOST);
        CHECKS.refused("38 an index ahead of what", Checks.INDEX, () -> x.looked(1, 6));
        CHECKS.row("38 what = 0 .. 5", new int[] {1, 1, 2, 1, 39, 3}, what -> x.looked(0, what));
    }

    private static void lookedAtTheMinuteOfThen() {
        CensusOffice x = office();
        x.person(1);
        x.person(2);
        x.release(0, 0, 1);
        x.look(1, 0, 0, 0);
        x.tick(1);
        x.look(1, 0, 0, 0);
        x.tick(1439);
        x.look(1, 0, 0, 0);
        CHECKS.row("38 the minutes", new int[] {0, 1, 1440}, k -> x.looked(k, 5));
        CHECKS.row("38 what they answered", new int[] {NOT_YET, 5, 5}, k -> x.looked(k, 4));
    }

    private static void toldTakesWhat() {
        CensusOffice x = new CensusOffice();
        CHECKS.refusedFor("39 what is 0 .. 14", Checks.ARGUMENT, what -> x.told(what), -1, 15, LEAST, MOST);
        x.unit();
        x.tick(1440);
        CHECKS.due("39 the first one", 1, () -> x.told(0));
        CHECKS.due("39 the last one", 1, () -> x.told(14));
    }
}
