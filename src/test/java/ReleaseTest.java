/** Promises 35 to 39: persons, releases, looks, what is told; the constants. */
public final class ReleaseTest {
    private static final int NONE = CensusOffice.NONE;
    private static final int NOT_YET = CensusOffice.NOT_YET;
    private static final int NO_RIGHT = CensusOffice.NO_RIGHT;
    private static final int SECRET = CensusOffice.SECRET;
    private static final Checks CHECKS = new Checks("ReleaseTest");

    public static void main(String[] args) {
        constants();
        persons();
        releasesRefused();
        releasesFull();
        looks();
        keptAsTheyWere();
        roundedOnes();
        lookRefusals();
        looksFull();
        told();
        CHECKS.end();
    }

    private static void constants() {
        CHECKS.due("NONE", -1, () -> CensusOffice.NONE);
        CHECKS.due("ABSENT", -2000000, () -> CensusOffice.ABSENT);
        CHECKS.due("NOT_YET", -12, () -> CensusOffice.NOT_YET);
        CHECKS.due("NO_RIGHT", -13, () -> CensusOffice.NO_RIGHT);
        CHECKS.due("SECRET", -14, () -> CensusOffice.SECRET);
    }

    /** A table of two rows and two columns: 5 9, 20 3; all cells secret by secrecy(0, 2, 100, 0). */
    private static CensusOffice office() {
        CensusOffice x = new CensusOffice();
        x.unit();
        Checks.form(x, "ask r 0 1;ask c 0 1;ask m 0 99;");
        int[] cells = {5, 9, 20, 3};
        for (int k = 0; k < 4; k++) {
            Checks.record(x, 0, 0, k / 2, k % 2, cells[k]);
        }
        x.table(0, 0, 1, 2, NONE);
        return x;
    }

    private static void persons() {
        CensusOffice x = new CensusOffice();
        CHECKS.refused("35 below 0", Checks.ARGUMENT, () -> x.person(-1));
        CHECKS.refused("35 above 7", Checks.ARGUMENT, () -> x.person(8));
        for (int k = 0; k < 12; k++) {
            int want = k;
            CHECKS.due("35 person", want, () -> x.person(want % 8));
        }
        CHECKS.refused("35 no room", Checks.ROOM, () -> x.person(0));
        CHECKS.refused("35 an argument first", Checks.ARGUMENT, () -> x.person(8));
        CHECKS.due("39 persons", 12, () -> x.told(9));
    }

    private static void releasesRefused() {
        CensusOffice x = office();
        x.person(1);
        x.person(6);
        x.tick(10);
        CHECKS.refused("36 person", Checks.INDEX, () -> x.release(2, 0, 0));
        CHECKS.refused("36 person below", Checks.INDEX, () -> x.release(-1, 0, 20));
        CHECKS.refused("36 table", Checks.INDEX, () -> x.release(1, 1, 0));
        CHECKS.refused("36 table below", Checks.INDEX, () -> x.release(0, -1, 20));
        CHECKS.refused("36 no maker, ahead of the minute", Checks.STATE, () -> x.release(1, 0, 0));
        CHECKS.refused("36 the minute is over", Checks.ARGUMENT, () -> x.release(0, 0, 9));
        CHECKS.refused("36 below 0", Checks.ARGUMENT, () -> x.release(0, 0, -1));
        CHECKS.due("36 this minute", 0, () -> x.release(0, 0, 10));
        CHECKS.due("36 a far minute", 1, () -> x.release(0, 0, Integer.MAX_VALUE));
        CHECKS.due("39 releases", 2, () -> x.told(10));
    }

    private static void releasesFull() {
        CensusOffice x = office();
        x.person(7);
        x.person(0);
        x.tick(5);
        for (int k = 0; k < 12; k++) {
            int want = k;
            CHECKS.due("36 release", want, () -> x.release(0, 0, 5));
        }
        CHECKS.refused("36 no room", Checks.ROOM, () -> x.release(0, 0, 5));
        CHECKS.refused("36 no maker first", Checks.STATE, () -> x.release(1, 0, 5));
        CHECKS.refused("36 the minute first", Checks.ARGUMENT, () -> x.release(0, 0, 4));
    }

    private static void looks() {
        CensusOffice x = office();
        x.secrecy(0, 4, 100, 0);
        x.person(1);
        x.person(2);
        x.person(4);
        x.person(0);
        x.person(1);
        x.release(0, 0, 7);
        CHECKS.due("37 ahead of its minute", NOT_YET, () -> x.look(1, 0, 0, 0));
        CHECKS.due("37 another maker", NOT_YET, () -> x.look(4, 0, 2, 2));
        CHECKS.due("37 a keeper", NOT_YET, () -> x.look(2, 0, 0, 0));
        CHECKS.due("37 without a role, not yet", NOT_YET, () -> x.look(3, 0, 0, 0));
        CHECKS.due("37 who made it", SECRET, () -> x.look(0, 0, 0, 0));
        CHECKS.due("37 who made it, a sum", 37, () -> x.look(0, 0, 2, 2));
        x.tick(6);
        CHECKS.due("37 a minute ahead", NOT_YET, () -> x.look(1, 0, 0, 0));
        x.tick(1);
        CHECKS.due("37 a secret cell", SECRET, () -> x.look(1, 0, 0, 0));
        CHECKS.due("37 a row", 14, () -> x.look(1, 0, 0, 2));
        CHECKS.due("37 a column", 12, () -> x.look(1, 0, 2, 1));
        CHECKS.due("37 the whole", 37, () -> x.look(1, 0, 2, 2));
        CHECKS.due("37 to a keeper", 5, () -> x.look(2, 0, 0, 0));
        CHECKS.due("37 without a role", NO_RIGHT, () -> x.look(3, 0, 0, 0));
        CHECKS.due("37 without a role, a sum", NO_RIGHT, () -> x.look(3, 0, 2, 2));
        CHECKS.due("39 each is a row", 14, () -> x.told(11));
        int[][] rows = {{1, 0, 0, 0, NOT_YET, 0}, {4, 0, 2, 2, NOT_YET, 0}, {2, 0, 0, 0, NOT_YET, 0},
            {3, 0, 0, 0, NOT_YET, 0}, {0, 0, 0, 0, SECRET, 0}, {0, 0, 2, 2, 37, 0}, {1, 0, 0, 0, NOT_YET, 6},
            {1, 0, 0, 0, SECRET, 7}, {1, 0, 0, 2, 14, 7}, {1, 0, 2, 1, 12, 7}, {1, 0, 2, 2, 37, 7},
            {2, 0, 0, 0, 5, 7}, {3, 0, 0, 0, NO_RIGHT, 7}, {3, 0, 2, 2, NO_RIGHT, 7}};
        for (int k = 0; k < rows.length; k++) {
            for (int what = 0; what < 6; what++) {
                int look = k;
                int asked = what;
                CHECKS.due("38 look " + k + " " + what, rows[k][what], () -> x.looked(look, asked));
            }
        }
    }

    private static void keptAsTheyWere() {
        CensusOffice x = office();
        x.person(3);
        x.release(0, 0, 0);
        x.secrecy(0, 4, 100, 0);
        x.release(0, 0, 0);
        x.secrecy(0, 0, 100, 0);
        x.round(0, 10);
        CHECKS.due("36 nothing was secret", 5, () -> x.look(0, 0, 0, 0));
        CHECKS.due("36 all was secret", SECRET, () -> x.look(0, 1, 1, 1));
        CHECKS.due("36 it was not rounded", 37, () -> x.look(0, 0, 2, 2));
        CHECKS.due("38 the release", 1, () -> x.looked(1, 1));
        CHECKS.due("38 the column", 1, () -> x.looked(1, 3));
    }

    private static void roundedOnes() {
        CensusOffice x = office();
        x.person(3);
        x.round(0, 10);
        x.release(0, 0, 0);
        x.round(0, 1);
        x.release(0, 0, 0);
        for (int k = 0; k < 9; k++) {
            int r = k / 3;
            int c = k % 3;
            int[] want = {0, 10, 10, 20, 0, 20, 20, 10, 30};
            CHECKS.due("37 rounded " + k, want[k], () -> x.look(0, 0, r, c));
            CHECKS.due("37 rounded to 1 " + k, x.cell(0, r, c, 0), () -> x.look(0, 1, r, c));
        }
    }

    private static void lookRefusals() {
        CensusOffice x = office();
        x.person(1);
        x.release(0, 0, 0);
        CHECKS.refused("37 person", Checks.INDEX, () -> x.look(1, 0, 0, 0));
        CHECKS.refused("37 person below", Checks.INDEX, () -> x.look(-1, 0, 0, 0));
        CHECKS.refused("37 release", Checks.INDEX, () -> x.look(0, 1, 0, 0));
        CHECKS.refused("37 release below", Checks.INDEX, () -> x.look(0, -1, 0, 0));
        CHECKS.refused("37 r", Checks.INDEX, () -> x.look(0, 0, 3, 0));
        CHECKS.refused("37 r below", Checks.INDEX, () -> x.look(0, 0, -1, 0));
        CHECKS.refused("37 c", Checks.INDEX, () -> x.look(0, 0, 0, 3));
        CHECKS.refused("37 c below", Checks.INDEX, () -> x.look(0, 0, 0, -1));
        CHECKS.due("37 none is a row", 0, () -> x.told(11));
        CHECKS.refused("38 no look", Checks.INDEX, () -> x.looked(0, 9));
        x.look(0, 0, 0, 0);
        CHECKS.refused("38 below", Checks.INDEX, () -> x.looked(-1, 0));
        CHECKS.refused("38 behind", Checks.INDEX, () -> x.looked(1, 0));
        CHECKS.refused("38 what", Checks.ARGUMENT, () -> x.looked(0, 6));
        CHECKS.refused("38 what below", Checks.ARGUMENT, () -> x.looked(0, -1));
    }

    private static void looksFull() {
        CensusOffice x = new CensusOffice();
        Checks.form(x, "ask r 0 0;ask c 0 0;");
        x.table(0, 0, 1, NONE, NONE);
        x.person(1);
        x.release(0, 0, 0);
        for (int k = 0; k < 500; k++) {
            x.look(0, 0, k % 2, 0);
        }
        CHECKS.refused("37 no room", Checks.ROOM, () -> x.look(0, 0, 0, 0));
        CHECKS.refused("37 an index first", Checks.INDEX, () -> x.look(0, 0, 2, 0));
        CHECKS.due("38 the last look", 1, () -> x.looked(499, 2));
    }

    private static void told() {
        CensusOffice x = office();
        x.unit();
        x.unit();
        x.merge(1, 2);
        x.tell(0, 0, 0, 0);
        x.tell(2, 0, 0, 0);
        x.open(0, 0);
        x.sample(0, 0, 0, 0, 1, 1);
        x.person(1);
        x.person(2);
        x.release(0, 0, 0);
        x.look(0, 0, 0, 0);
        x.look(1, 0, 0, 0);
        x.look(1, 0, 0, 1);
        x.feed(1, 2, 3, 4, 5);
        x.trim(17);
        x.tick(3000);
        int[] want = {3, 2, 1, 1, 5, 1, 4, 1, 1, 2, 1, 3, 17, 3000, 2};
        for (int what = 0; what < want.length; what++) {
            int asked = what;
            CHECKS.due("39 told " + what, want[what], () -> x.told(asked));
        }
        CHECKS.refused("39 below", Checks.ARGUMENT, () -> x.told(-1));
        CHECKS.refused("39 above", Checks.ARGUMENT, () -> x.told(15));
    }
}
