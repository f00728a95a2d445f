/**
 * TABLES and promises 29 to 34: each sentence that names an edge has a method of its own here, with
 * the last input that is taken and the first that is refused.
 */
public final class TableEdgeTest {
    private static final int NONE = CensusOffice.NONE;
    private static final int LEAST = Integer.MIN_VALUE;
    private static final int MOST = Integer.MAX_VALUE;
    private static final String GRID = "ask r 1 4;ask c 0 2;ask m -9 9;let l m-5;ask o 0 4;ask w 0 3;must r=r;warn r=r;";
    private static final Checks CHECKS = new Checks("TableEdgeTest");

    public static void main(String[] args) {
        tableTakesForms();
        tableTakesRowsAndColumns();
        tableTakesMeasures();
        tableTakesSamples();
        tableOfAsksAlone();
        tableRefusesTheSame();
        fourRowsThreeColumns();
        tablesAreTwelve();
        tableRefusesInOrder();
        tableRefusedChangesNothing();
        measuresFromNothingOn();
        recordsThatBreakARule();
        sampleThatDrewNobody();
        sixtyRecords();
        cellTakesTables();
        cellTakesRowsAndColumns();
        cellTakesWhat();
        cellOfOneByOne();
        cellsOfOneColumn();
        cellsOfOneRow();
        secrecyTakesTables();
        secrecyTakesFew();
        secrecyTakesShare();
        secrecyTakesWide();
        secrecyRefusedChangesNothing();
        fewContributors();
        shareOfTheGreatest();
        goodUpToWide();
        goodDownToWide();
        goodDownToNothing();
        eachPrimaryIsGood();
        cellAndOne();
        leastBitsOfTheSameSum();
        noneGoodHidesAll();
        nothingPrimary();
        secretTakesCells();
        intervalTakesCells();
        intervalOfOtherCells();
        intervalsOfOneLine();
        intervalsWithNothing();
        roundTakesTables();
        roundTakesBases();
        roundRefusedChangesNothing();
        roundedMultiplesStay();
        roundedSumsThatAreMultiples();
        roundedFirstCellsLeast();
        roundedOneLine();
        roundedFullTable();
        roundedFromTheSums();
        CHECKS.end();
    }

    private static CensusOffice office() {
        return Checks.office(GRID);
    }

    private static void add(CensusOffice x, int r, int c, int m) {
        Checks.record(x, 0, 0, r, c, m, 0, 0);
    }

    /**
     * An office with one table of so many rows. A number below 0 stands for a cell of one record with
     * the number's size; the others have a record more, which adds nothing but a contributor.
     */
    private static CensusOffice table(int rows, int... cells) {
        CensusOffice x = new CensusOffice();
        x.unit();
        int columns = cells.length / rows;
        Checks.form(x, "ask r 1 " + rows + ";ask c 1 " + columns + ";ask m 0 999999;");
        for (int k = 0; k < cells.length; k++) {
            int r = 1 + k / columns;
            int c = 1 + k % columns;
            Checks.record(x, 0, 0, r, c, Math.abs(cells[k]));
            if (cells[k] >= 0) {
                Checks.record(x, 0, 0, r, c, 0);
            }
        }
        x.table(0, 0, 1, 2, NONE);
        return x;
    }

    private static void secrets(String what, CensusOffice x, int columns, int... want) {
        CHECKS.row(what, want, k -> x.secret(0, k / columns, k % columns));
    }

    private static void rounded(String what, CensusOffice x, int columns, int... want) {
        CHECKS.row(what, want, k -> x.cell(0, k / columns, k % columns, 3));
    }

    private static void intervals(String what, CensusOffice x, int columns, int... leastAndGreatest) {
        CHECKS.row(what, leastAndGreatest, k -> x.interval(0, k / 2 / columns, k / 2 % columns, k % 2 == 1));
    }

    // ---- 29: table

    private static void tableTakesForms() {
        CensusOffice x = office();
        Checks.form(x, GRID);
        CHECKS.refusedFor("29 no such form", Checks.INDEX, f -> x.table(f, 0, 1, NONE, NONE), -1, 2, LEAST, MOST);
        CHECKS.row("29 the first and the last form", new int[] {0, 1}, f -> x.table(f, 0, 1, NONE, NONE));
    }

    private static void tableTakesRowsAndColumns() {
        CensusOffice x = Checks.office("ask r 1 2;ask c 1 2;");
        CHECKS.refusedFor("29 no such row", Checks.INDEX, r -> x.table(0, r, 1, NONE, NONE), -1, 2, LEAST, MOST);
        CHECKS.refusedFor("29 no such column", Checks.INDEX, c -> x.table(0, 0, c, NONE, NONE), -1, 2, LEAST, MOST);
        CHECKS.due("29 the first and the last", 0, () -> x.table(0, 0, 1, NONE, NONE));
        CHECKS.due("29 the last and the first", 1, () -> x.table(0, 1, 0, NONE, NONE));
    }

    private static void tableTakesMeasures() {
        CensusOffice x = Checks.office("ask r 1 2;ask c 1 2;let l 7;");
        Checks.record(x, 0, 0, 1, 2);
        CHECKS.refusedFor("29 no such measure", Checks.INDEX, m -> x.table(0, 0, 1, m, NONE), -2, 3, LEAST, MOST);
        CHECKS.row("29 NONE, asks, the last let", new int[] {0, 1, 2, 3}, k -> x.table(0, 0, 1, k - 1, NONE));
        CHECKS.row("30 one each, the row's, the column's, the let's", new int[] {1, 1, 2, 7}, k -> x.cell(k, 0, 1, 0));
    }

    private static void tableTakesSamples() {
        CensusOffice x = Checks.office("ask r 1 2;ask c 1 2;");
        x.tell(0, 0, 0, 0);
        x.sample(0, 0, 0, 0, 0, 0);
        x.sample(0, 0, 0, 0, 1, 0);
        Checks.record(x, 0, 0, 1, 1);
        CHECKS.refusedFor("29 no such sample", Checks.INDEX, s -> x.table(0, 0, 1, NONE, s), -2, 2, LEAST, MOST);
        CHECKS.row("29 NONE, the first, the last", new int[] {0, 1, 2}, k -> x.table(0, 0, 1, NONE, k - 1));
        CHECKS.row("30 all, of nobody, of everybody", new int[] {1, 0, 1}, k -> x.cell(k, 0, 0, 0));
    }

    private static void tableOfAsksAlone() {
        CensusOffice x = office();
        CHECKS.refusedFor("29 the row is no ask", Checks.ARGUMENT, r -> x.table(0, r, 1, NONE, NONE), 3, 6, 7);
        CHECKS.refusedFor("29 the column is no ask", Checks.ARGUMENT, c -> x.table(0, 0, c, NONE, NONE), 3, 6, 7);
        CHECKS.refusedFor("29 the measure is neither ask nor let", Checks.ARGUMENT, m -> x.table(0, 0, 1, m, NONE), 6, 7);
        CHECKS.due("29 a let as measure", 0, () -> x.table(0, 0, 1, 3, NONE));
    }

    private static void tableRefusesTheSame() {
        CensusOffice x = office();
        CHECKS.refusedFor("29 both are the same", Checks.ARGUMENT, k -> x.table(0, k, k, NONE, NONE), 0, 1);
        CHECKS.due("29 the row as measure", 0, () -> x.table(0, 0, 1, 0, NONE));
    }

    private static void fourRowsThreeColumns() {
        CensusOffice x = Checks.office("ask a 7 7;ask b 1 3;ask c 1 4;ask d 1 5;ask e -2 0;ask f -999999 999999;");
        CHECKS.due("29 four rows, three columns", 0, () -> x.table(0, 2, 1, NONE, NONE));
        CHECKS.refused("29 five rows", Checks.ARGUMENT, () -> x.table(0, 3, 1, NONE, NONE));
        CHECKS.refused("29 four columns", Checks.ARGUMENT, () -> x.table(0, 1, 2, NONE, NONE));
        CHECKS.refused("29 five columns", Checks.ARGUMENT, () -> x.table(0, 1, 3, NONE, NONE));
        CHECKS.refused("29 very many rows", Checks.ARGUMENT, () -> x.table(0, 5, 1, NONE, NONE));
        CHECKS.refused("29 very many columns", Checks.ARGUMENT, () -> x.table(0, 1, 5, NONE, NONE));
        CHECKS.due("29 very many numbers as measure", 1, () -> x.table(0, 4, 1, 5, NONE));
        CHECKS.due("29 one row", 2, () -> x.table(0, 0, 4, NONE, NONE));
        CHECKS.due("29 one column", 3, () -> x.table(0, 2, 0, NONE, NONE));
        CHECKS.due("30 the sum behind four rows and three columns", 0, () -> x.cell(0, 4, 3, 0));
        CHECKS.refused("30 no row behind it", Checks.INDEX, () -> x.cell(0, 5, 3, 0));
        CHECKS.refused("30 no column behind it", Checks.INDEX, () -> x.cell(0, 4, 4, 0));
        CHECKS.due("30 the sum behind one row", 0, () -> x.cell(2, 1, 3, 0));
        CHECKS.refused("30 no row behind that", Checks.INDEX, () -> x.cell(2, 2, 3, 0));
        CHECKS.due("30 the sum behind one column", 0, () -> x.cell(3, 4, 1, 0));
        CHECKS.refused("30 no column behind that", Checks.INDEX, () -> x.cell(3, 4, 2, 0));
    }

    private static void tablesAreTwelve() {
        CensusOffice x = office();
        for (int k = 0; k < 11; k++) {
            x.table(0, 0, 1, NONE, NONE);
        }
        CHECKS.due("29 the 12th", 11, () -> x.table(0, 0, 1, NONE, NONE));
        CHECKS.refused("29 no 13th", Checks.ROOM, () -> x.table(0, 0, 1, NONE, NONE));
        CHECKS.due("29 refused: twelve", 12, () -> x.told(8));
        CHECKS.due("30 the last one", 0, () -> x.cell(11, 0, 0, 0));
        CHECKS.refused("30 none behind it", Checks.INDEX, () -> x.cell(12, 0, 0, 0));
    }

    private static void tableRefusesInOrder() {
        CensusOffice x = office();
        CHECKS.allRefused("29 an index ahead of an argument", Checks.INDEX, () -> x.table(1, 3, 3, 6, NONE),
                () -> x.table(0, 8, 3, 6, NONE), () -> x.table(0, 3, 8, 6, NONE), () -> x.table(0, 3, 3, 8, NONE),
                () -> x.table(0, 3, 3, 6, 0), () -> x.table(0, 4, 5, NONE, 0));
        for (int k = 0; k < 12; k++) {
            x.table(0, 0, 1, NONE, NONE);
        }
        CHECKS.allRefused("29 an index ahead of no room", Checks.INDEX, () -> x.table(1, 0, 1, NONE, NONE),
                () -> x.table(0, 8, 1, NONE, NONE), () -> x.table(0, 0, 8, NONE, NONE),
                () -> x.table(0, 0, 1, 8, NONE), () -> x.table(0, 0, 1, NONE, 0));
        CHECKS.allRefused("29 an argument ahead of no room", Checks.ARGUMENT, () -> x.table(0, 3, 1, NONE, NONE),
                () -> x.table(0, 0, 3, NONE, NONE), () -> x.table(0, 0, 0, NONE, NONE), () -> x.table(0, 0, 1, 6, NONE),
                () -> x.table(0, 4, 1, NONE, NONE), () -> x.table(0, 0, 5, NONE, NONE));
        CHECKS.refused("29 no room", Checks.ROOM, () -> x.table(0, 0, 1, NONE, NONE));
    }

    private static void tableRefusedChangesNothing() {
        CensusOffice x = office();
        CHECKS.refused("29 no ask", Checks.ARGUMENT, () -> x.table(0, 3, 1, NONE, NONE));
        CHECKS.refused("29 no sample", Checks.INDEX, () -> x.table(0, 0, 1, NONE, 0));
        CHECKS.due("29 refused: no table", 0, () -> x.told(8));
        CHECKS.due("29 the first one", 0, () -> x.table(0, 0, 1, NONE, NONE));
    }

    private static void measuresFromNothingOn() {
        CensusOffice x = office();
        add(x, 1, 0, -1);
        add(x, 1, 0, 0);
        add(x, 1, 0, 1);
        add(x, 4, 2, 4);
        add(x, 4, 2, 5);
        add(x, 4, 2, 6);
        x.table(0, 0, 1, 2, NONE);
        CHECKS.row("29 a measure of 0 counts, one of -1 does not", new int[] {1, 2, 1, 1}, what -> x.cell(0, 0, 0, what));
        x.table(0, 0, 1, 3, NONE);
        CHECKS.row("29 of a let, too", new int[] {1, 2, 1, 1}, what -> x.cell(1, 3, 2, what));
        CHECKS.row("29 all below 0: an empty cell", new int[] {0, 0, 0, 0}, what -> x.cell(1, 0, 0, what));
    }

    private static void recordsThatBreakARule() {
        CensusOffice x = office();
        add(x, 1, 0, 5);
        add(x, 1, 0, 6);
        x.rule(0, 2, NONE, 5);
        x.table(0, 0, 1, NONE, NONE);
        CHECKS.due("29 the one that breaks none", 1, () -> x.cell(0, 0, 0, 0));
        x.rule(0, 2, NONE, 4);
        x.table(0, 0, 1, NONE, NONE);
        CHECKS.due("29 none is left", 0, () -> x.cell(1, 4, 3, 0));
        CHECKS.due("29 a table stays as it was made", 1, () -> x.cell(0, 4, 3, 0));
    }

    private static void sampleThatDrewNobody() {
        CensusOffice x = Checks.office("ask r 1 2;ask c 1 2;");
        x.unit();
        x.tell(0, 0, 0, 0);
        Checks.record(x, 0, 0, 1, 1);
        Checks.record(x, 0, 1, 1, 1);
        x.sample(0, 0, 0, 0, 0, 0);
        x.sample(0, 0, 0, 0, 1, 0);
        x.table(0, 0, 1, NONE, 0);
        CHECKS.due("29 of nobody", 0, () -> x.cell(0, 2, 2, 0));
        x.table(0, 0, 1, NONE, 1);
        CHECKS.due("29 of unit 0", 1, () -> x.cell(1, 2, 2, 0));
        x.merge(1, 0);
        x.table(0, 0, 1, NONE, 1);
        CHECKS.due("29 of those whose LAST it is", 2, () -> x.cell(2, 2, 2, 0));
        x.unit();
        x.merge(0, 2);
        x.table(0, 0, 1, NONE, 1);
        CHECKS.due("29 their LAST was not drawn", 0, () -> x.cell(3, 2, 2, 0));
    }

    private static void sixtyRecords() {
        CensusOffice x = Checks.office("ask r 1 1;ask c 1 1;ask m 0 999999;");
        for (int k = 0; k < 60; k++) {
            Checks.record(x, 0, 0, 1, 1, 999999);
        }
        x.table(0, 0, 1, 2, NONE);
        CHECKS.row("30 all of them in one cell", new int[] {59999940, 60, 999999, 59999940}, what -> x.cell(0, 0, 0, what));
        CHECKS.due("31 all are not few", 0, () -> x.secrecy(0, 60, 100, 0));
        CHECKS.due("32 60 are not less than 60", 0, () -> x.secret(0, 0, 0));
        x.secrecy(0, 61, 100, 0);
        CHECKS.due("32 but less than 61", 1, () -> x.secret(0, 0, 0));
        x.secrecy(0, 0, 2, 0);
        CHECKS.due("32 a sixtieth is not more than 2 of 100", 0, () -> x.secret(0, 0, 0));
        x.secrecy(0, 0, 1, 0);
        CHECKS.due("32 but more than 1 of 100", 1, () -> x.secret(0, 0, 0));
        CHECKS.due("34 to 1000", 0, () -> x.round(0, 1000));
        CHECKS.due("30 rounded", 59999000, () -> x.cell(0, 1, 1, 3));
    }

    // ---- 30: cell

    private static void cellTakesTables() {
        CensusOffice x = office();
        x.table(0, 0, 1, NONE, NONE);
        add(x, 1, 0, 0);
        x.table(0, 0, 1, NONE, NONE);
        CHECKS.refusedFor("30 no such table", Checks.INDEX, t -> x.cell(t, 0, 0, 0), -1, 2, LEAST, MOST);
        CHECKS.row("30 the first and the last", new int[] {0, 1}, t -> x.cell(t, 0, 0, 0));
    }

    private static void cellTakesRowsAndColumns() {
        CensusOffice x = table(2, 1, 2, 3, 4, 5, 6);
        CHECKS.refusedFor("30 no such row", Checks.INDEX, r -> x.cell(0, r, 0, 0), -1, 3, LEAST, MOST);
        CHECKS.refusedFor("30 no such column", Checks.INDEX, c -> x.cell(0, 0, c, 0), -1, 4, LEAST, MOST);
        CHECKS.row("30 cells, rows, columns, the whole", new int[] {1, 2, 3, 6, 4, 5, 6, 15, 5, 7, 9, 21},
                k -> x.cell(0, k / 4, k % 4, 0));
        CHECKS.row("30 their GREATEST", new int[] {1, 2, 3, 3, 4, 5, 6, 6, 4, 5, 6, 6}, k -> x.cell(0, k / 4, k % 4, 2));
        CHECKS.row("30 their CONTRIBUTORS", new int[] {2, 2, 2, 6, 2, 2, 2, 6, 4, 4, 4, 12}, k -> x.cell(0, k / 4, k % 4, 1));
    }

    private static void cellTakesWhat() {
        CensusOffice x = table(1, 5);
        CHECKS.refusedFor("30 what", Checks.ARGUMENT, what -> x.cell(0, 0, 0, what), -1, 4, LEAST, MOST);
        CHECKS.refusedFor("30 what of the whole", Checks.ARGUMENT, what -> x.cell(0, 1, 1, what), -1, 4);
        CHECKS.allRefused("30 an index ahead of what", Checks.INDEX, () -> x.cell(1, 0, 0, 4), () -> x.cell(0, 2, 0, 4),
                () -> x.cell(0, 0, 2, -1), () -> x.cell(0, -1, 0, -1));
        CHECKS.row("30 what = 0 .. 3", new int[] {5, 2, 5, 5}, what -> x.cell(0, 0, 0, what));
    }

    private static void cellOfOneByOne() {
        CensusOffice x = table(1, 7);
        CHECKS.row("30 the cell, its row, its column, the whole", new int[] {7, 7, 7, 7}, k -> x.cell(0, k / 2, k % 2, 0));
        CHECKS.refused("30 no row more", Checks.INDEX, () -> x.cell(0, 2, 0, 0));
        CHECKS.refused("30 no column more", Checks.INDEX, () -> x.cell(0, 0, 2, 0));
    }

    private static void cellsOfOneColumn() {
        CensusOffice x = table(4, 1, 2, 3, 4);
        CHECKS.row("30 cells and rows", new int[] {1, 1, 2, 2, 3, 3, 4, 4, 10, 10}, k -> x.cell(0, k / 2, k % 2, 0));
        CHECKS.row("30 GREATEST", new int[] {1, 1, 2, 2, 3, 3, 4, 4, 4, 4}, k -> x.cell(0, k / 2, k % 2, 2));
    }

    private static void cellsOfOneRow() {
        CensusOffice x = table(1, 1, 2, 3);
        CHECKS.row("30 cells and columns", new int[] {1, 2, 3, 6, 1, 2, 3, 6}, k -> x.cell(0, k / 4, k % 4, 0));
    }

    // ---- 31: secrecy

    private static void secrecyTakesTables() {
        CensusOffice x = office();
        x.table(0, 0, 1, NONE, NONE);
        x.table(0, 0, 1, NONE, NONE);
        CHECKS.refusedFor("31 no such table", Checks.INDEX, t -> x.secrecy(t, 0, 0, 0), -1, 2, LEAST, MOST);
        CHECKS.refused("31 an index ahead of an argument", Checks.INDEX, () -> x.secrecy(2, -1, 101, -1));
        CHECKS.row("31 the first and the last", new int[] {0, 0}, t -> x.secrecy(t, 0, 0, 0));
    }

    private static void secrecyTakesFew() {
        CensusOffice x = table(1, 5, 5);
        CHECKS.refusedFor("31 FEW is 0 .. 100", Checks.ARGUMENT, few -> x.secrecy(0, few, 100, 0), -1, 101, LEAST, MOST);
        CHECKS.due("31 FEW 0", 0, () -> x.secrecy(0, 0, 100, 0));
        secrets("32 nothing is less than 0", x, 2, 0, 0);
        CHECKS.due("31 FEW 100", 0, () -> x.secrecy(0, 100, 100, 0));
        secrets("32 all is less than 100", x, 2, 1, 1);
    }

    private static void secrecyTakesShare() {
        CensusOffice x = table(1, 5, 0);
        CHECKS.refusedFor("31 SHARE is 0 .. 100", Checks.ARGUMENT, share -> x.secrecy(0, 0, share, 0), -1, 101, LEAST, MOST);
        CHECKS.due("31 SHARE 100", 0, () -> x.secrecy(0, 0, 100, 0));
        secrets("32 all is not more than all", x, 2, 0, 0);
        CHECKS.due("31 SHARE 0", 0, () -> x.secrecy(0, 0, 0, 0));
        secrets("32 5 is more than nothing, 0 is not", x, 2, 1, 0);
    }

    private static void secrecyTakesWide() {
        CensusOffice x = table(2, -999999, 999999, 999999, 999999);
        CHECKS.refusedFor("31 WIDE is 0 .. 1000000", Checks.ARGUMENT, wide -> x.secrecy(0, 2, 100, wide),
                -1, 1000001, LEAST, MOST);
        CHECKS.due("31 WIDE 0", 0, () -> x.secrecy(0, 2, 100, 0));
        secrets("32 the PRIMARY one alone", x, 2, 1, 0, 0, 0);
        CHECKS.due("31 WIDE 999999", 3000000, () -> x.secrecy(0, 2, 100, 999999));
        CHECKS.due("31 WIDE 1000000", NONE, () -> x.secrecy(0, 2, 100, 1000000));
    }

    private static void secrecyRefusedChangesNothing() {
        CensusOffice x = table(2, -5, 9, 20, 30);
        CHECKS.refused("31 refused ahead of the first one", Checks.ARGUMENT, () -> x.secrecy(0, 2, 100, -1));
        secrets("32 no cell is", x, 2, 0, 0, 0, 0);
        x.secrecy(0, 2, 100, 9);
        secrets("32 all are", x, 2, 1, 2, 2, 2);
        CHECKS.allRefused("31 refused", Checks.ARGUMENT, () -> x.secrecy(0, 101, 100, 0), () -> x.secrecy(0, 0, 101, 0),
                () -> x.secrecy(0, 0, 100, 1000001));
        secrets("32 refused: all are", x, 2, 1, 2, 2, 2);
        intervals("33 refused: their INTERVALS", x, 2, 0, 14, 0, 14, 11, 25, 25, 39);
    }

    private static void fewContributors() {
        CensusOffice x = office();
        int[] counts = {0, 1, 2, 3};
        for (int r = 0; r < 4; r++) {
            for (int k = 0; k < counts[r]; k++) {
                add(x, 1 + r, 0, 0);
            }
        }
        x.table(0, 0, 1, 2, NONE);
        int[][] want = {{0, 0, 0, 0}, {0, 0, 0, 0}, {0, 1, 0, 0}, {0, 1, 1, 0}, {0, 1, 1, 1}, {0, 1, 1, 1}};
        for (int few = 0; few < want.length; few++) {
            int used = few;
            CHECKS.due("31 FEW " + few, 0, () -> x.secrecy(0, used, 100, 0));
            CHECKS.row("32 0, 1, 2, 3 CONTRIBUTORS with FEW " + few, want[few], r -> x.secret(0, r, 0));
        }
    }

    private static void shareOfTheGreatest() {
        CensusOffice x = Checks.office("ask r 1 2;ask c 1 2;ask m 0 99;");
        Checks.record(x, 0, 0, 1, 1, 50);
        Checks.record(x, 0, 0, 1, 1, 50);
        Checks.record(x, 0, 0, 1, 2, 51);
        Checks.record(x, 0, 0, 1, 2, 49);
        Checks.record(x, 0, 0, 2, 1, 1);
        Checks.record(x, 0, 0, 2, 1, 0);
        x.table(0, 0, 1, 2, NONE);
        x.secrecy(0, 0, 50, 0);
        secrets("32 50 of 100 is not more than 50, 51 is", x, 2, 0, 1, 1, 0);
        x.secrecy(0, 0, 51, 0);
        secrets("32 51 of 100 is not more than 51", x, 2, 0, 0, 1, 0);
        x.secrecy(0, 0, 49, 0);
        secrets("32 50 of 100 is more than 49", x, 2, 1, 1, 1, 0);
        x.secrecy(0, 0, 99, 0);
        secrets("32 all is more than 99", x, 2, 0, 0, 1, 0);
        x.secrecy(0, 0, 100, 0);
        secrets("32 but not than 100", x, 2, 0, 0, 0, 0);
    }

    private static void goodUpToWide() {
        CensusOffice x = table(2, -5, 9, 20, 30);
        CHECKS.due("31 up by 9", 62, () -> x.secrecy(0, 2, 100, 9));
        intervals("33 up by 9, down to 0", x, 2, 0, 14, 0, 14, 11, 25, 25, 39);
        CHECKS.due("31 not by 10", NONE, () -> x.secrecy(0, 2, 100, 10));
        CensusOffice y = table(2, -5, 20, 9, 30);
        CHECKS.due("31 up by 9, by the column", 62, () -> y.secrecy(0, 2, 100, 9));
        CHECKS.due("31 not by 10, by the column", NONE, () -> y.secrecy(0, 2, 100, 10));
    }

    private static void goodDownToWide() {
        CensusOffice x = table(2, -50, 90, 80, 30);
        CHECKS.due("31 down by 30", 203, () -> x.secrecy(0, 2, 100, 30));
        intervals("33 up by 80, down by 30", x, 2, 20, 130, 10, 120, 0, 110, 0, 110);
        CHECKS.due("31 not by 31", NONE, () -> x.secrecy(0, 2, 100, 31));
    }

    private static void goodDownToNothing() {
        CensusOffice x = table(2, -5, 99, 99, 5);
        CHECKS.due("31 down to 0, up by 99", 206, () -> x.secrecy(0, 2, 100, 99));
        CHECKS.due("33 0", 0, () -> x.interval(0, 0, 0, false));
        CensusOffice y = table(2, -5, 99, 99, 4);
        CHECKS.due("31 down to 1 is not WIDE 5", NONE, () -> y.secrecy(0, 2, 100, 5));
        CHECKS.due("31 but WIDE 4", 205, () -> y.secrecy(0, 2, 100, 4));
        CHECKS.due("33 1", 1, () -> y.interval(0, 0, 0, false));
        CensusOffice z = Checks.office("ask r 1 2;ask c 1 2;ask m 0 99;");
        int[][] records = {{1, 1, 0}, {1, 2, 9}, {1, 2, 0}, {2, 1, 9}, {2, 1, 0}, {2, 2, 0}, {2, 2, 0}};
        for (int[] answers : records) {
            Checks.record(z, 0, 0, answers);
        }
        z.table(0, 0, 1, 2, NONE);
        CHECKS.due("31 a cell of 0, up by 9", 9 + 9 + 0 + 3, () -> z.secrecy(0, 2, 100, 9));
        intervals("33 of a cell of 0", z, 2, 0, 9, 0, 9, 0, 9, 0, 9);
        CHECKS.due("31 not by 10", NONE, () -> z.secrecy(0, 2, 100, 10));
    }

    private static void eachPrimaryIsGood() {
        CensusOffice x = table(2, -5, -9, -20, -3);
        CHECKS.due("31 all four by 3", 0, () -> x.secrecy(0, 2, 100, 3));
        secrets("32 all PRIMARY", x, 2, 1, 1, 1, 1);
        intervals("33 of each", x, 2, 2, 14, 0, 12, 11, 23, 0, 12);
        CHECKS.due("31 not by 4", NONE, () -> x.secrecy(0, 2, 100, 4));
        secrets("32 still PRIMARY", x, 2, 1, 1, 1, 1);
    }

    /** Six cells of 1 are a round, and so are four with one of them greater. */
    private static void cellAndOne() {
        CensusOffice x = table(3, -1, 1, 4, 4, 1, 1, 1, 4, 1);
        CHECKS.due("31 4 + 1 + 1 and 3 is less than 5 and 5", 9, () -> x.secrecy(0, 2, 100, 1));
        secrets("32 four cells", x, 3, 1, 2, 0, 2, 2, 0, 0, 0, 0);
        CensusOffice y = table(3, -1, 1, 6, 6, 1, 1, 1, 6, 1);
        CHECKS.due("31 6 + 1 + 1 and 3 is more than 5 and 5", 10, () -> y.secrecy(0, 2, 100, 1));
        secrets("32 six cells", y, 3, 1, 2, 0, 0, 2, 2, 2, 0, 2);
    }

    private static void leastBitsOfTheSameSum() {
        CensusOffice x = table(3, -1, 1, 5, 5, 1, 1, 1, 5, 1);
        CHECKS.due("31 both are 10", 10, () -> x.secrecy(0, 2, 100, 1));
        secrets("32 the least number as bits", x, 3, 1, 2, 0, 2, 2, 0, 0, 0, 0);
        CensusOffice y = table(3, 5, 5, 5, 5, -5, 5, 5, 5, 5);
        CHECKS.due("31 four of the same", 18, () -> y.secrecy(0, 2, 100, 5));
        secrets("32 the first cells", y, 3, 2, 2, 0, 2, 1, 0, 0, 0, 0);
        CensusOffice z = table(3, 5, 5, 5, 5, 5, 5, 5, 5, -5);
        CHECKS.due("31 four of the same, of the last", 18, () -> z.secrecy(0, 2, 100, 5));
        secrets("32 the first cells, of the last", z, 3, 2, 0, 2, 0, 0, 0, 2, 0, 1);
    }

    private static void noneGoodHidesAll() {
        CensusOffice x = table(2, -5, 9, 20, 30, 0, 40);
        CHECKS.due("31 too wide", NONE, () -> x.secrecy(0, 2, 100, 100));
        secrets("32 PRIMARY, and others", x, 3, 1, 2, 2, 2, 2, 2);
        CHECKS.due("31 not too wide", 20 + 30 + 40 + 3, () -> x.secrecy(0, 2, 100, 5));
        secrets("32 the others no more", x, 3, 1, 0, 2, 2, 0, 2);
        CensusOffice y = table(1, -5);
        CHECKS.due("31 the only cell", NONE, () -> y.secrecy(0, 2, 100, 1));
        secrets("32 the only cell", y, 1, 1);
        CHECKS.due("31 the only cell, WIDE 0", 0, () -> y.secrecy(0, 2, 100, 0));
    }

    private static void nothingPrimary() {
        CensusOffice x = table(2, 5, 9, 20, 30);
        secrets("32 ahead of the first secrecy()", x, 2, 0, 0, 0, 0);
        CHECKS.due("31 nothing is PRIMARY", 0, () -> x.secrecy(0, 0, 100, 1000000));
        secrets("32 nothing is secret", x, 2, 0, 0, 0, 0);
        CensusOffice y = office();
        y.table(0, 0, 1, 2, NONE);
        CHECKS.due("31 an empty table", 0, () -> y.secrecy(0, 100, 0, 1000000));
        CHECKS.row("32 nothing is secret in it", new int[12], k -> y.secret(0, k / 3, k % 3));
    }

    // ---- 32, 33: secret, interval

    private static void secretTakesCells() {
        CensusOffice x = table(2, -5, 9, 20, 30, 0, 40);
        CHECKS.refusedFor("32 no such table", Checks.INDEX, t -> x.secret(t, 0, 0), -1, 1, LEAST, MOST);
        CHECKS.refusedFor("32 no such row, no sums", Checks.INDEX, r -> x.secret(0, r, 0), -1, 2, LEAST, MOST);
        CHECKS.refusedFor("32 no such column, no sums", Checks.INDEX, c -> x.secret(0, 0, c), -1, 3, LEAST, MOST);
        x.secrecy(0, 2, 100, 0);
        CHECKS.due("32 the first cell", 1, () -> x.secret(0, 0, 0));
        CHECKS.due("32 the last cell", 0, () -> x.secret(0, 1, 2));
    }

    private static void intervalTakesCells() {
        CensusOffice x = table(2, -5, 9, 20, 30, 0, 40);
        CHECKS.refusedFor("33 no such table", Checks.INDEX, t -> x.interval(t, 0, 0, true), -1, 1, LEAST, MOST);
        CHECKS.refusedFor("33 no such row, no sums", Checks.INDEX, r -> x.interval(0, r, 0, true), -1, 2, LEAST, MOST);
        CHECKS.refusedFor("33 no such column, no sums", Checks.INDEX, c -> x.interval(0, 0, c, false), -1, 3, LEAST, MOST);
        CHECKS.due("33 the first cell", 5, () -> x.interval(0, 0, 0, false));
        CHECKS.due("33 the last cell", 40, () -> x.interval(0, 1, 2, true));
    }

    private static void intervalOfOtherCells() {
        CensusOffice x = table(2, -5, 9, 20, 30, 0, 40);
        intervals("33 ahead of the first secrecy()", x, 3, 5, 5, 9, 9, 20, 20, 30, 30, 0, 0, 40, 40);
        x.secrecy(0, 2, 100, 0);
        intervals("33 one secret cell alone is known", x, 3, 5, 5, 9, 9, 20, 20, 30, 30, 0, 0, 40, 40);
        x.secrecy(0, 2, 100, 5);
        secrets("32 not the column between", x, 3, 1, 0, 2, 2, 0, 2);
        intervals("33 of others by these, of the column between the cell", x, 3, 0, 25, 9, 9, 0, 25, 10, 35, 0, 0, 35, 60);
    }

    private static void intervalsOfOneLine() {
        CensusOffice x = table(1, -5, -6, -7);
        CHECKS.due("31 one row: its columns tell all", NONE, () -> x.secrecy(0, 2, 100, 1));
        intervals("33 known all the same", x, 3, 5, 5, 6, 6, 7, 7);
        CensusOffice y = table(4, -5, -6, -7, -8);
        CHECKS.due("31 one column: its rows tell all", NONE, () -> y.secrecy(0, 2, 100, 1));
        intervals("33 known, too", y, 1, 5, 5, 6, 6, 7, 7, 8, 8);
        CHECKS.due("31 WIDE 0", 0, () -> y.secrecy(0, 2, 100, 0));
    }

    private static void intervalsWithNothing() {
        CensusOffice x = table(3, -1, 0, 2, 0, 3, 0, 4, 0, -5);
        CHECKS.due("31 all are hidden", NONE, () -> x.secrecy(0, 2, 100, 1000));
        intervals("33 whole numbers from 0 on", x, 3, 0, 3, 0, 3, 0, 3, 0, 3, 0, 3, 0, 3, 0, 5, 0, 3, 1, 7);
    }

    // ---- 34: round

    private static void roundTakesTables() {
        CensusOffice x = office();
        x.table(0, 0, 1, NONE, NONE);
        x.table(0, 0, 1, NONE, NONE);
        CHECKS.refusedFor("34 no such table", Checks.INDEX, t -> x.round(t, 1), -1, 2, LEAST, MOST);
        CHECKS.refused("34 an index ahead of the BASE", Checks.INDEX, () -> x.round(2, 0));
        CHECKS.row("34 the first and the last", new int[] {0, 0}, t -> x.round(t, 1));
    }

    private static void roundTakesBases() {
        CensusOffice x = table(1, 999, 1);
        CHECKS.refusedFor("34 a BASE is 1 .. 1000", Checks.ARGUMENT, base -> x.round(0, base), 0, 1001, -1, LEAST, MOST);
        CHECKS.due("34 BASE 1", 0, () -> x.round(0, 1));
        rounded("30 to 1", x, 3, 999, 1, 1000);
        CHECKS.due("34 BASE 1000", 1, () -> x.round(0, 1000));
        rounded("30 to 1000", x, 3, 0, 1000, 1000);
    }

    private static void roundRefusedChangesNothing() {
        CensusOffice x = table(1, 5, 4, 7);
        CHECKS.refused("34 refused ahead of the first one", Checks.ARGUMENT, () -> x.round(0, 0));
        rounded("30 the sums", x, 4, 5, 4, 7, 16);
        x.round(0, 10);
        rounded("30 rounded", x, 4, 0, 0, 10, 10);
        CHECKS.refusedFor("34 refused", Checks.ARGUMENT, base -> x.round(0, base), 0, 1001);
        rounded("30 refused: as it was rounded", x, 4, 0, 0, 10, 10);
    }

    private static void roundedMultiplesStay() {
        CensusOffice x = table(2, 10, 5, 5, 0, 5, 5);
        CHECKS.due("34 two are more", 2, () -> x.round(0, 10));
        rounded("30 a multiple is itself", x, 4, 10, 0, 10, 20, 0, 10, 0, 10, 10, 10, 10, 30);
        CensusOffice y = table(2, 10, 20, 30, 40);
        CHECKS.due("34 none is more", 0, () -> y.round(0, 10));
        rounded("30 all are themselves", y, 3, 10, 20, 30, 30, 40, 70, 40, 60, 100);
    }

    private static void roundedSumsThatAreMultiples() {
        CensusOffice x = table(2, 9, 1, 1, 9);
        CHECKS.due("34 two are more", 2, () -> x.round(0, 10));
        rounded("30 rows and columns of 10 stay so", x, 3, 0, 10, 10, 10, 0, 10, 10, 10, 20);
        CensusOffice y = table(2, 0, 5, 5, 0);
        CHECKS.due("34 the whole of 10 stays so", 1, () -> y.round(0, 10));
        rounded("30 one of both", y, 3, 0, 0, 0, 10, 0, 10, 10, 0, 10);
        CensusOffice z = table(2, 999, 1, 1, 999);
        CHECKS.due("34 to 1000", 2, () -> z.round(0, 1000));
        rounded("30 to 1000", z, 3, 0, 1000, 1000, 1000, 0, 1000, 1000, 1000, 2000);
    }

    private static void roundedFirstCellsLeast() {
        CensusOffice x = table(2, 1, 1, 1, 1);
        CHECKS.due("34 4 becomes 3 at least", 1, () -> x.round(0, 3));
        rounded("30 the last cell is raised", x, 3, 0, 0, 0, 0, 3, 3, 0, 3, 3);
        CensusOffice y = table(2, 7, 7, 7, 7);
        CHECKS.due("34 to 2", 2, () -> y.round(0, 2));
        rounded("30 6 first", y, 3, 6, 8, 14, 8, 6, 14, 14, 14, 28);
        CensusOffice z = table(3, 4, 5, 6, 7, 8, 9, 1, 2, 3);
        CHECKS.due("34 four are more", 4, () -> z.round(0, 10));
        rounded("30 by rows, then columns", z, 4, 0, 0, 10, 10, 0, 10, 10, 20, 10, 0, 0, 10, 10, 10, 20, 40);
    }

    private static void roundedOneLine() {
        CensusOffice x = table(1, 5);
        CHECKS.due("34 one cell goes down", 0, () -> x.round(0, 10));
        rounded("30 one cell", x, 2, 0, 0, 0, 0);
        CensusOffice y = table(4, 9, 9, 1, 1);
        CHECKS.due("34 one column", 2, () -> y.round(0, 10));
        rounded("30 one column", y, 2, 0, 0, 0, 0, 10, 10, 10, 10, 20, 20);
        CensusOffice z = table(1, 3, 3, 4);
        CHECKS.due("34 one row", 1, () -> z.round(0, 10));
        rounded("30 one row", z, 4, 0, 0, 10, 10, 0, 0, 10, 10);
    }

    private static void roundedFullTable() {
        CensusOffice x = table(4, 13, 20, 7, 5, 5, 10, 99, 1, 40, 6, 6, 6);
        CHECKS.due("34 four of twelve", 4, () -> x.round(0, 10));
        rounded("30 twelve cells", x, 4, 10, 20, 10, 40, 0, 10, 10, 20, 100, 0, 40, 140, 10, 0, 0, 10, 120, 30, 60, 210);
        CensusOffice y = table(4, 4, 4, 4, 4, 4, 4, 4, 4, 4, 4, 4, 4);
        CHECKS.due("34 nine of twelve", 9, () -> y.round(0, 5));
        rounded("30 twelve of 4", y, 4, 0, 5, 5, 10, 5, 0, 5, 10, 5, 5, 0, 10, 5, 5, 5, 15, 15, 15, 15, 45);
        CensusOffice z = table(4, 1, 2, 3, 4, 5, 6, 7, 8, 9, 10, 11, 12);
        CHECKS.due("34 five of twelve", 5, () -> z.round(0, 7));
        rounded("30 to 7", z, 4, 0, 0, 0, 0, 0, 7, 7, 14, 7, 7, 14, 28, 14, 7, 14, 35, 21, 21, 35, 77);
        CensusOffice s = table(2, 1, 2, 2, 3, 3, 1);
        CHECKS.due("34 a column of 3 and the whole of 12 stay so", 2, () -> s.round(0, 3));
        rounded("30 to 3", s, 4, 0, 3, 0, 3, 3, 3, 3, 9, 3, 6, 3, 12);
    }

    private static void roundedFromTheSums() {
        CensusOffice x = table(2, 13, 27, 8, 4);
        x.round(0, 1000);
        rounded("30 to nothing", x, 3, 0, 0, 0, 0, 0, 0, 0, 0, 0);
        CHECKS.due("34 from the sums, whatever was done", 0, () -> x.round(0, 1));
        rounded("30 as they were", x, 3, 13, 27, 40, 8, 4, 12, 21, 31, 52);
        x.secrecy(0, 100, 100, 0);
        CHECKS.due("34 secret ones, too", 2, () -> x.round(0, 10));
        CHECKS.due("30 the sum stays", 52, () -> x.cell(0, 2, 2, 0));
    }
}
