/** Promises 29 to 34: tables, cells, secrecy, intervals, rounding. */
public final class TableTest {
    private static final int NONE = CensusOffice.NONE;
    private static final String GRID = "ask r 1 4;ask c 0 2;ask m 0 999999;let l m-5;ask o 0 4;ask w 0 3;must r=r;";
    private static final Checks CHECKS = new Checks("TableTest");

    public static void main(String[] args) {
        cells();
        cellsCounted();
        recordsLeftOut();
        samplesCounted();
        staysAsItWasMade();
        refusals();
        cellRefusals();
        primaries();
        shares();
        intervals();
        goodSets();
        leastSum();
        noneGood();
        secrecyAnew();
        secrecyRefused();
        rounding();
        roundingFirstLeast();
        roundingAnew();
        CHECKS.end();
    }

    private static CensusOffice office() {
        CensusOffice x = new CensusOffice();
        x.unit();
        Checks.form(x, GRID);
        return x;
    }

    private static void add(CensusOffice x, int r, int c, int m) {
        Checks.record(x, 0, 0, r, c, m, 0, 0);
    }

    /** An office with one table of two rows and columns as many as are told, each cell one record. */
    private static CensusOffice table(int rows, int... cells) {
        CensusOffice x = new CensusOffice();
        x.unit();
        int columns = cells.length / rows;
        Checks.form(x, "ask r 1 " + rows + ";ask c 1 " + columns + ";ask m 0 999999;");
        for (int k = 0; k < cells.length; k++) {
            Checks.record(x, 0, 0, 1 + k / columns, 1 + k % columns, cells[k]);
        }
        x.table(0, 0, 1, 2, NONE);
        return x;
    }

    private static void cells() {
        CensusOffice x = office();
        add(x, 1, 0, 10);
        add(x, 1, 0, 30);
        add(x, 4, 2, 7);
        add(x, 4, 0, 50);
        CHECKS.due("29 table", 0, () -> x.table(0, 0, 1, 2, NONE));
        int[][] want = {{0, 0, 40, 2, 30, 40}, {3, 2, 7, 1, 7, 7}, {2, 1, 0, 0, 0, 0}, {0, 3, 40, 2, 30, 40},
            {3, 3, 57, 2, 50, 57}, {4, 0, 90, 3, 50, 90}, {4, 1, 0, 0, 0, 0}, {4, 3, 97, 4, 50, 97}};
        for (int[] row : want) {
            for (int what = 0; what < 4; what++) {
                int asked = what;
                CHECKS.due("30 cell " + row[0] + " " + row[1] + " " + what, row[2 + what],
                        () -> x.cell(0, row[0], row[1], asked));
            }
        }
    }

    private static void cellsCounted() {
        CensusOffice x = office();
        add(x, 1, 0, 10);
        add(x, 1, 0, 30);
        CHECKS.due("29 without a measure", 0, () -> x.table(0, 0, 1, NONE, NONE));
        CHECKS.due("30 one each", 2, () -> x.cell(0, 0, 0, 0));
        CHECKS.due("30 the greatest is 1", 1, () -> x.cell(0, 0, 0, 2));
        CHECKS.due("29 a let", 1, () -> x.table(0, 0, 1, 3, NONE));
        CHECKS.due("30 of a let", 30, () -> x.cell(1, 0, 0, 0));
        CHECKS.due("29 the row as measure, turned", 2, () -> x.table(0, 5, 1, 1, NONE));
        CHECKS.due("30 contributors of 0", 2, () -> x.cell(2, 0, 0, 1));
        CHECKS.due("30 nothing", 0, () -> x.cell(2, 4, 3, 0));
    }

    private static void recordsLeftOut() {
        CensusOffice x = new CensusOffice();
        x.unit();
        Checks.form(x, "ask a 0 9;ask r 0 1 if a<>1;ask c 0 1 if a<>2;ask m -9 9 if a<>3;ask z 0 9;");
        Checks.form(x, "ask a 0 9;ask r 0 1;ask c 0 1;ask m 0 9;");
        Checks.record(x, 0, 0, 0, 0, 0, 5, 0);
        Checks.record(x, 0, 0, 1, 0, 5, 0);
        Checks.record(x, 0, 0, 2, 0, 5, 0);
        Checks.record(x, 0, 0, 3, 0, 0, 0);
        Checks.record(x, 0, 0, 4, 0, 0, -1, 0);
        Checks.record(x, 0, 0, 4, 0, 0, 0, 0);
        Checks.record(x, 0, 0, 4, 0, 0, 2, 9);
        Checks.record(x, 1, 0, 4, 0, 0, 2);
        x.rule(0, 4, NONE, 8);
        x.table(0, 1, 2, 3, NONE);
        CHECKS.due("29 two contribute", 2, () -> x.cell(0, 2, 2, 1));
        CHECKS.due("29 their sum", 5, () -> x.cell(0, 0, 0, 0));
        x.table(0, 1, 2, NONE, NONE);
        CHECKS.due("29 without a measure four", 4, () -> x.cell(1, 2, 2, 0));
        x.impute(6, 0);
        x.table(0, 1, 2, NONE, NONE);
        CHECKS.due("29 mended it counts", 5, () -> x.cell(2, 2, 2, 0));
    }

    private static void samplesCounted() {
        CensusOffice x = new CensusOffice();
        for (int k = 0; k < 4; k++) {
            x.unit();
            x.tell(k, 0, 0, k);
        }
        Checks.form(x, "ask r 0 1;ask c 0 1;");
        for (int k = 0; k < 4; k++) {
            Checks.record(x, 0, k, 0, 0);
        }
        x.sample(0, 1, 2, 0, 2, 1);
        x.table(0, 0, 1, NONE, 0);
        CHECKS.due("29 of the sample", 2, () -> x.cell(0, 0, 0, 0));
        x.merge(0, 1);
        x.table(0, 0, 1, NONE, 0);
        CHECKS.due("29 by the last of a unit", 3, () -> x.cell(1, 0, 0, 0));
        x.merge(2, 3);
        x.table(0, 0, 1, NONE, 0);
        CHECKS.due("29 a drawn one that went away", 2, () -> x.cell(2, 0, 0, 0));
        CHECKS.due("30 a table stays", 2, () -> x.cell(0, 0, 0, 0));
    }

    private static void staysAsItWasMade() {
        CensusOffice x = office();
        add(x, 1, 0, 10);
        x.table(0, 0, 1, 2, NONE);
        add(x, 1, 0, 30);
        x.rule(0, 2, NONE, 5);
        CHECKS.due("30 as it was", 10, () -> x.cell(0, 0, 0, 0));
        x.table(0, 0, 1, 2, NONE);
        CHECKS.due("30 none keeps the rule", 0, () -> x.cell(1, 0, 0, 0));
    }

    private static void refusals() {
        CensusOffice x = office();
        x.sample(0, 0, 0, 1, 0, 0);
        CHECKS.refused("29 form", Checks.INDEX, () -> x.table(1, 0, 0, NONE, NONE));
        CHECKS.refused("29 row", Checks.INDEX, () -> x.table(0, 7, 3, NONE, NONE));
        CHECKS.refused("29 row none", Checks.INDEX, () -> x.table(0, NONE, 1, NONE, NONE));
        CHECKS.refused("29 column", Checks.INDEX, () -> x.table(0, 3, 7, NONE, NONE));
        CHECKS.refused("29 column none", Checks.INDEX, () -> x.table(0, 0, NONE, NONE, NONE));
        CHECKS.refused("29 measure", Checks.INDEX, () -> x.table(0, 3, 1, 7, NONE));
        CHECKS.refused("29 measure below", Checks.INDEX, () -> x.table(0, 3, 1, -2, NONE));
        CHECKS.refused("29 sample", Checks.INDEX, () -> x.table(0, 3, 1, NONE, 1));
        CHECKS.refused("29 sample below", Checks.INDEX, () -> x.table(0, 3, 1, NONE, -2));
        CHECKS.refused("29 row no ask", Checks.ARGUMENT, () -> x.table(0, 3, 1, NONE, NONE));
        CHECKS.refused("29 column no ask", Checks.ARGUMENT, () -> x.table(0, 0, 6, NONE, NONE));
        CHECKS.refused("29 both the same", Checks.ARGUMENT, () -> x.table(0, 1, 1, NONE, NONE));
        CHECKS.refused("29 a must", Checks.ARGUMENT, () -> x.table(0, 0, 1, 6, NONE));
        CHECKS.refused("29 five rows", Checks.ARGUMENT, () -> x.table(0, 4, 1, NONE, NONE));
        CHECKS.refused("29 four columns", Checks.ARGUMENT, () -> x.table(0, 0, 5, NONE, NONE));
        for (int k = 0; k < 12; k++) {
            int want = k;
            CHECKS.due("29 table", want, () -> x.table(0, 0, 1, 0, 0));
        }
        CHECKS.refused("29 no room", Checks.ROOM, () -> x.table(0, 0, 1, 0, 0));
        CHECKS.refused("29 an argument first", Checks.ARGUMENT, () -> x.table(0, 4, 1, NONE, NONE));
        CHECKS.due("39 tables", 12, () -> x.told(8));
    }

    private static void cellRefusals() {
        CensusOffice x = office();
        x.table(0, 0, 1, 2, NONE);
        CHECKS.refused("30 table", Checks.INDEX, () -> x.cell(1, 0, 0, 9));
        CHECKS.refused("30 r", Checks.INDEX, () -> x.cell(0, 5, 0, 9));
        CHECKS.refused("30 r below", Checks.INDEX, () -> x.cell(0, -1, 0, 0));
        CHECKS.refused("30 c", Checks.INDEX, () -> x.cell(0, 0, 4, -1));
        CHECKS.refused("30 c below", Checks.INDEX, () -> x.cell(0, 0, -1, 0));
        CHECKS.refused("30 what", Checks.ARGUMENT, () -> x.cell(0, 4, 3, 4));
        CHECKS.refused("30 what below", Checks.ARGUMENT, () -> x.cell(0, 0, 0, -1));
        CHECKS.refused("32 table", Checks.INDEX, () -> x.secret(1, 0, 0));
        CHECKS.refused("32 no sums, r", Checks.INDEX, () -> x.secret(0, 4, 0));
        CHECKS.refused("32 no sums, c", Checks.INDEX, () -> x.secret(0, 0, 3));
        CHECKS.refused("32 below", Checks.INDEX, () -> x.secret(0, -1, 0));
        CHECKS.refused("33 table", Checks.INDEX, () -> x.interval(-1, 0, 0, true));
        CHECKS.refused("33 no sums, r", Checks.INDEX, () -> x.interval(0, 4, 0, true));
        CHECKS.refused("33 no sums, c", Checks.INDEX, () -> x.interval(0, 0, 3, false));
        CHECKS.refused("33 below", Checks.INDEX, () -> x.interval(0, 0, -1, false));
        CHECKS.due("30 an empty table", 0, () -> x.cell(0, 4, 3, 0));
        CHECKS.due("31 of an empty table", 0, () -> x.secrecy(0, 100, 0, 1000000));
        CHECKS.due("34 of an empty table", 0, () -> x.round(0, 7));
    }

    private static void primaries() {
        CensusOffice x = office();
        for (int k = 0; k < 6; k++) {
            add(x, 1 + k / 3, k % 3, 0);
            add(x, 1 + k / 3, k % 3, 0);
            add(x, 1 + k / 3, k % 3, 0);
        }
        add(x, 4, 2, 0);
        add(x, 4, 2, 0);
        x.table(0, 0, 1, 2, NONE);
        CHECKS.due("32 ahead of secrecy", 0, () -> x.secret(0, 3, 2));
        CHECKS.due("31 nothing wide", 0, () -> x.secrecy(0, 3, 100, 0));
        CHECKS.due("32 two contributors", 1, () -> x.secret(0, 3, 2));
        CHECKS.due("32 three contributors", 0, () -> x.secret(0, 0, 0));
        CHECKS.due("32 no contributor", 0, () -> x.secret(0, 3, 0));
        CHECKS.due("31 few 0", 0, () -> x.secrecy(0, 0, 100, 0));
        CHECKS.due("32 none", 0, () -> x.secret(0, 3, 2));
        CHECKS.due("31 share of nothing", 0, () -> x.secrecy(0, 0, 0, 0));
        CHECKS.due("32 the greatest is not more", 0, () -> x.secret(0, 3, 2));
    }

    private static void shares() {
        CensusOffice x = office();
        add(x, 1, 0, 60);
        add(x, 1, 0, 40);
        x.table(0, 0, 1, 2, NONE);
        CHECKS.due("31 60 of 100", 0, () -> x.secrecy(0, 0, 60, 0));
        CHECKS.due("32 not more", 0, () -> x.secret(0, 0, 0));
        CHECKS.due("31 more than 59 of 100", 0, () -> x.secrecy(0, 0, 59, 0));
        CHECKS.due("32 primary", 1, () -> x.secret(0, 0, 0));
        CHECKS.due("33 alone it is known, least", 100, () -> x.interval(0, 0, 0, false));
        CHECKS.due("33 alone it is known, greatest", 100, () -> x.interval(0, 0, 0, true));
        CensusOffice y = table(1, 999999, 0);
        CHECKS.due("31 great numbers", 0, () -> y.secrecy(0, 0, 99, 0));
        CHECKS.due("32 great numbers", 1, () -> y.secret(0, 0, 0));
        CHECKS.due("31 all by one is not more than all", 0, () -> y.secrecy(0, 0, 100, 0));
        CHECKS.due("32 not primary", 0, () -> y.secret(0, 0, 0));
    }

    private static void intervals() {
        CensusOffice x = table(2, 5, 9, 20, 3);
        CHECKS.due("33 ahead of secrecy", 5, () -> x.interval(0, 0, 0, true));
        CHECKS.due("31 all four", 0, () -> x.secrecy(0, 2, 100, 0));
        int[][] want = {{2, 14}, {0, 12}, {11, 23}, {0, 12}};
        for (int k = 0; k < 4; k++) {
            int cell = k;
            CHECKS.due("33 least of " + k, want[k][0], () -> x.interval(0, cell / 2, cell % 2, false));
            CHECKS.due("33 greatest of " + k, want[k][1], () -> x.interval(0, cell / 2, cell % 2, true));
        }
    }

    private static void goodSets() {
        CensusOffice x = office();
        int[] cells = {50, 3, 60, 40, 30, 20, 10, 70, 80, 90, 15, 25};
        for (int k = 0; k < 12; k++) {
            add(x, 1 + k / 3, k % 3, cells[k]);
            if (k != 1) {
                add(x, 1 + k / 3, k % 3, 0);
            }
        }
        x.table(0, 0, 1, 2, NONE);
        CHECKS.due("31 wide 50", 50 + 10 + 70 + 3, () -> x.secrecy(0, 2, 100, 50));
        CHECKS.due("33 just wide enough", 53, () -> x.interval(0, 0, 1, true));
        CHECKS.due("31 wide 10", 60 + 15 + 25 + 3, () -> x.secrecy(0, 2, 100, 10));
        CHECKS.due("32 primary", 1, () -> x.secret(0, 0, 1));
        CHECKS.due("32 another", 2, () -> x.secret(0, 0, 2));
        CHECKS.due("32 another of the column", 2, () -> x.secret(0, 3, 1));
        CHECKS.due("32 shown", 0, () -> x.secret(0, 0, 0));
        CHECKS.due("33 least", 0, () -> x.interval(0, 0, 1, false));
        CHECKS.due("33 greatest", 18, () -> x.interval(0, 0, 1, true));
        CHECKS.due("33 of one that is shown", 50, () -> x.interval(0, 0, 0, true));
    }

    private static void leastSum() {
        CensusOffice x = office();
        int[] cells = {5, 7, 7, 7, 7, 7, 7, 7, 7};
        for (int k = 0; k < 9; k++) {
            add(x, 1 + k / 3, k % 3, cells[k]);
            if (k != 0) {
                add(x, 1 + k / 3, k % 3, 0);
            }
        }
        x.table(0, 0, 1, 2, NONE);
        CHECKS.due("31 three of the same", 24, () -> x.secrecy(0, 2, 100, 5));
        int[] bits = {1, 2, 0, 2, 2, 0, 0, 0, 0};
        for (int k = 0; k < 9; k++) {
            int cell = k;
            CHECKS.due("32 the least bits " + k, bits[k], () -> x.secret(0, cell / 3, cell % 3));
        }
    }

    private static void noneGood() {
        CensusOffice x = table(2, 5, 9, 20, 3);
        CHECKS.due("31 too wide", NONE, () -> x.secrecy(0, 2, 100, 10));
        CHECKS.due("32 all are secret", 1, () -> x.secret(0, 1, 1));
        CensusOffice y = office();
        add(y, 1, 0, 5);
        y.table(0, 0, 1, 2, NONE);
        CHECKS.due("31 nothing hides it", NONE, () -> y.secrecy(0, 2, 100, 1));
        CHECKS.due("32 primary", 1, () -> y.secret(0, 0, 0));
        CHECKS.due("32 another, though it is empty", 2, () -> y.secret(0, 3, 2));
        CHECKS.due("33 known all the same", 5, () -> y.interval(0, 0, 0, true));
    }

    private static void secrecyAnew() {
        CensusOffice x = table(2, 5, 9, 20, 3);
        x.secrecy(0, 2, 100, 1);
        CHECKS.due("31 in place of what it was", 0, () -> x.secrecy(0, 1, 100, 1));
        CHECKS.due("32 none is secret", 0, () -> x.secret(0, 0, 0));
        CHECKS.due("33 none is secret", 5, () -> x.interval(0, 0, 0, true));
    }

    private static void secrecyRefused() {
        CensusOffice x = table(2, 5, 9, 20, 3);
        x.secrecy(0, 2, 100, 1);
        CHECKS.refused("31 table", Checks.INDEX, () -> x.secrecy(1, -1, 0, 0));
        CHECKS.refused("31 few", Checks.ARGUMENT, () -> x.secrecy(0, 101, 0, 0));
        CHECKS.refused("31 few below", Checks.ARGUMENT, () -> x.secrecy(0, -1, 0, 0));
        CHECKS.refused("31 share", Checks.ARGUMENT, () -> x.secrecy(0, 0, 101, 0));
        CHECKS.refused("31 share below", Checks.ARGUMENT, () -> x.secrecy(0, 0, -1, 0));
        CHECKS.refused("31 wide", Checks.ARGUMENT, () -> x.secrecy(0, 0, 0, 1000001));
        CHECKS.refused("31 wide below", Checks.ARGUMENT, () -> x.secrecy(0, 0, 0, -1));
        CHECKS.due("32 nothing changed", 1, () -> x.secret(0, 0, 0));
    }

    private static void rounding() {
        CensusOffice x = table(2, 1, 1, 1, 1);
        CHECKS.due("34 to 3", 1, () -> x.round(0, 3));
        int[] want = {0, 0, 0, 0, 3, 3, 0, 3, 3};
        for (int k = 0; k < 9; k++) {
            int cell = k;
            CHECKS.due("30 rounded " + k, want[k], () -> x.cell(0, cell / 3, cell % 3, 3));
        }
        CHECKS.due("30 the sums stay", 4, () -> x.cell(0, 2, 2, 0));
        CHECKS.refused("34 table", Checks.INDEX, () -> x.round(1, 0));
        CHECKS.refused("34 base 0", Checks.ARGUMENT, () -> x.round(0, 0));
        CHECKS.refused("34 base 1001", Checks.ARGUMENT, () -> x.round(0, 1001));
        CHECKS.refused("34 base below", Checks.ARGUMENT, () -> x.round(0, -3));
        CHECKS.due("34 base 1000", 0, () -> x.round(0, 1000));
        CHECKS.due("30 to nothing", 0, () -> x.cell(0, 2, 2, 3));
    }

    private static void roundingFirstLeast() {
        CensusOffice x = table(1, 5, 4, 7);
        CHECKS.due("34 16 to 10 or 20", 1, () -> x.round(0, 10));
        int[] want = {0, 0, 10, 10};
        for (int k = 0; k < 4; k++) {
            int cell = k;
            CHECKS.due("30 first cells least " + k, want[k], () -> x.cell(0, 0, cell, 3));
        }
        CensusOffice y = table(1, 5, 10, 5);
        CHECKS.due("34 multiples stay", 1, () -> y.round(0, 10));
        int[] kept = {0, 10, 10, 20};
        for (int k = 0; k < 4; k++) {
            int cell = k;
            CHECKS.due("30 a sum that is one stays " + k, kept[k], () -> y.cell(0, 0, cell, 3));
        }
    }

    private static void roundingAnew() {
        CensusOffice x = table(2, 13, 27, 8, 4);
        x.round(0, 100);
        CHECKS.due("34 from the sums", 0, () -> x.round(0, 1));
        CHECKS.due("30 base 1", 13, () -> x.cell(0, 0, 0, 3));
        CHECKS.due("30 base 1, all", 52, () -> x.cell(0, 2, 2, 3));
    }
}
