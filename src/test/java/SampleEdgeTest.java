/**
 * SAMPLES and promises 25 to 28: each sentence that names an edge has a method of its own here,
 * with the last input that is taken and the first that is refused.
 */
public final class SampleEdgeTest {
    private static final int NONE = CensusOffice.NONE;
    private static final int LEAST = Integer.MIN_VALUE;
    private static final int MOST = Integer.MAX_VALUE;
    private static final Checks CHECKS = new Checks("SampleEdgeTest");

    public static void main(String[] args) {
        sampleTakesFields();
        sampleTakesNoneToAll();
        sampleOfAnEmptyFrame();
        sampleOfOneUnit();
        samplesAreTwelve();
        sampleRefusesInOrder();
        sampleRefusedChangesNothing();
        frameFromLowToHigh();
        frameOfAnyNumbers();
        frameOnTheDay();
        frameWithoutMergedOnes();
        frameWithStrata();
        strataRising();
        restsApartByOne();
        restsOfTheSame();
        restsOfNothing();
        roundedDown();
        keysWithSign();
        keysAtTheEnds();
        keysInEachStratum();
        drawnTakesSamples();
        drawnTakesPlaces();
        chanceTakesSamplesAndUnits();
        chanceInLowestTerms();
        chanceOfOthers();
        overlapTakesSamples();
        overlapOfNoneAndAll();
        CHECKS.end();
    }

    private static void drew(String what, CensusOffice x, int sample, int... units) {
        CHECKS.row(what, units, k -> x.drawn(sample, k));
        CHECKS.due(what + ", no more", NONE, () -> x.drawn(sample, units.length));
    }

    private static void chances(String what, CensusOffice x, int sample, int... aboveAndBelow) {
        CHECKS.row(what + ", above and below by units", aboveAndBelow, k -> x.chance(sample, k / 2, k % 2 == 1));
    }

    // ---- 25: sample

    private static void sampleTakesFields() {
        CensusOffice x = new CensusOffice();
        x.unit();
        for (int field = 0; field < 6; field++) {
            x.tell(0, field, 0, 7);
        }
        CHECKS.refusedFor("25 no such f", Checks.INDEX, f -> x.sample(f, 7, 7, 0, 1, 0), -1, 6, LEAST, MOST);
        CHECKS.refusedFor("25 no such g", Checks.INDEX, g -> x.sample(0, 7, 7, g, 1, 0), -1, 6, LEAST, MOST);
        CHECKS.row("25 f = 0 .. 5", new int[] {0, 1, 2, 3, 4, 5}, f -> x.sample(f, 7, 7, 0, 1, 0));
        CHECKS.row("25 g = 0 .. 5", new int[] {6, 7, 8, 9, 10, 11}, g -> x.sample(0, 7, 7, g, 1, 0));
    }

    private static void sampleTakesNoneToAll() {
        CensusOffice x = Checks.strata(1, 1, 2);
        CHECKS.refusedFor("25 n below 0, or more than the FRAME has", Checks.ARGUMENT, n -> x.sample(0, 0, 0, 1, n, 5),
                -1, 4, LEAST, MOST);
        CHECKS.due("25 nobody", 0, () -> x.sample(0, 0, 0, 1, 0, 5));
        CHECKS.due("25 everybody", 1, () -> x.sample(0, 0, 0, 1, 3, 5));
        drew("26 nobody", x, 0);
        drew("26 everybody", x, 1, 0, 1, 2);
        chances("27 of nobody", x, 0, 0, 1, 0, 1, 0, 1);
        chances("27 of everybody", x, 1, 1, 1, 1, 1, 1, 1);
    }

    private static void sampleOfAnEmptyFrame() {
        CensusOffice x = Checks.strata(1);
        CHECKS.refused("25 one of nobody", Checks.ARGUMENT, () -> x.sample(0, 1, 1, 1, 1, 5));
        CHECKS.due("25 none of nobody", 0, () -> x.sample(0, 1, 1, 1, 0, 5));
        drew("26 nobody", x, 0);
        chances("27 nobody", x, 0, 0, 1);
    }

    private static void sampleOfOneUnit() {
        CensusOffice x = Checks.strata(1);
        CHECKS.due("25 the only one", 0, () -> x.sample(0, 0, 0, 1, 1, 5));
        drew("26 the only one", x, 0, 0);
        chances("27 the only one", x, 0, 1, 1);
        CHECKS.refused("25 no second one", Checks.ARGUMENT, () -> x.sample(0, 0, 0, 1, 2, 5));
    }

    private static void samplesAreTwelve() {
        CensusOffice x = Checks.strata(1, 1);
        for (int k = 0; k < 11; k++) {
            x.sample(0, 0, 0, 1, 1, k);
        }
        CHECKS.due("25 the 12th", 11, () -> x.sample(0, 0, 0, 1, 2, 0));
        CHECKS.refused("25 no 13th", Checks.ROOM, () -> x.sample(0, 0, 0, 1, 2, 0));
        CHECKS.due("25 refused: twelve", 12, () -> x.told(7));
        drew("26 the last one", x, 11, 0, 1);
        CHECKS.refused("26 none behind it", Checks.INDEX, () -> x.drawn(12, 0));
    }

    private static void sampleRefusesInOrder() {
        CensusOffice x = Checks.strata(1, 1);
        CHECKS.allRefused("25 an index ahead of n", Checks.INDEX, () -> x.sample(6, 0, 0, 1, -1, 0),
                () -> x.sample(0, 0, 0, 6, 3, 0), () -> x.sample(-1, 0, 0, -1, 3, 0));
        for (int k = 0; k < 12; k++) {
            x.sample(0, 0, 0, 1, 1, k);
        }
        CHECKS.allRefused("25 an index ahead of no room", Checks.INDEX, () -> x.sample(6, 0, 0, 1, 1, 0),
                () -> x.sample(0, 0, 0, -1, 1, 0));
        CHECKS.allRefused("25 n ahead of no room", Checks.ARGUMENT, () -> x.sample(0, 0, 0, 1, -1, 0),
                () -> x.sample(0, 0, 0, 1, 3, 0));
        CHECKS.refused("25 no room", Checks.ROOM, () -> x.sample(0, 0, 0, 1, 0, 0));
    }

    private static void sampleRefusedChangesNothing() {
        CensusOffice x = Checks.strata(1, 1, 1);
        x.sample(0, 0, 0, 1, 1, 77);
        CHECKS.refused("25 n", Checks.ARGUMENT, () -> x.sample(0, 0, 0, 1, 4, 0));
        CHECKS.refused("25 g", Checks.INDEX, () -> x.sample(0, 0, 0, 6, 3, 0));
        CHECKS.due("25 refused: one sample", 1, () -> x.told(7));
        drew("26 refused: the first one stays", x, 0, 0);
        CHECKS.due("25 the next one", 1, () -> x.sample(0, 0, 0, 1, 3, 0));
    }

    private static void frameFromLowToHigh() {
        CensusOffice x = new CensusOffice();
        for (int unit = 0; unit < 5; unit++) {
            x.unit();
            x.tell(unit, 0, 0, unit - 2);
        }
        x.sample(0, -1, 1, 0, 3, 0);
        drew("25 both ends are in it", x, 0, 1, 2, 3);
        CHECKS.refused("25 none beyond them", Checks.ARGUMENT, () -> x.sample(0, -1, 1, 0, 4, 0));
        x.sample(0, 2, 2, 0, 1, 0);
        drew("25 low and high the same", x, 1, 4);
        CHECKS.refused("25 high below low", Checks.ARGUMENT, () -> x.sample(0, 1, 0, 0, 1, 0));
        x.sample(0, 1, 0, 0, 0, 0);
        drew("25 nobody", x, 2);
    }

    private static void frameOfAnyNumbers() {
        CensusOffice x = new CensusOffice();
        x.unit();
        x.unit();
        x.unit();
        x.tell(0, 0, 0, -1000000);
        x.tell(1, 0, 0, 1000000);
        x.sample(0, LEAST, MOST, 0, 2, 0);
        drew("25 all that have a VALUE, none without", x, 0, 0, 1);
        CHECKS.refused("25 ABSENT is in no range", Checks.ARGUMENT, () -> x.sample(0, LEAST, MOST, 0, 3, 0));
        x.sample(0, -1000000, 999999, 0, 1, 0);
        drew("25 the least number", x, 1, 0);
        x.sample(0, -999999, 1000000, 0, 1, 0);
        drew("25 the greatest number", x, 2, 1);
        chances("27 of all three", x, 2, 0, 1, 1, 1, 0, 1);
    }

    private static void frameOnTheDay() {
        CensusOffice x = new CensusOffice();
        x.unit();
        x.tell(0, 0, 1, 5);
        x.tell(0, 1, 2, 5);
        x.tick(1440);
        x.tell(0, 2, 1, 5);
        CHECKS.due("25 from the DAY on", 0, () -> x.sample(0, 5, 5, 0, 1, 0));
        CHECKS.due("25 told on the DAY", 1, () -> x.sample(2, 5, 5, 2, 1, 0));
        CHECKS.refused("25 f not from the next DAY on", Checks.ARGUMENT, () -> x.sample(1, 5, 5, 0, 1, 0));
        CHECKS.refused("25 nor g", Checks.ARGUMENT, () -> x.sample(0, 5, 5, 1, 1, 0));
        x.tick(1439);
        CHECKS.refused("25 nor in its last minute", Checks.ARGUMENT, () -> x.sample(1, 5, 5, 0, 1, 0));
        x.tick(1);
        CHECKS.due("25 but then", 2, () -> x.sample(1, 5, 5, 1, 1, 0));
    }

    private static void frameWithoutMergedOnes() {
        CensusOffice x = Checks.strata(1, 2, 3);
        x.tell(0, 2, 0, 9);
        x.merge(0, 1);
        CHECKS.refused("25 the unit that went is not in it", Checks.ARGUMENT, () -> x.sample(0, 0, 0, 1, 3, 0));
        x.sample(0, 0, 0, 1, 2, 0);
        drew("25 the others are", x, 0, 1, 2);
        x.sample(2, 9, 9, 2, 1, 0);
        drew("25 by the VALUE of the one that went", x, 1, 1);
    }

    private static void frameWithStrata() {
        CensusOffice x = new CensusOffice();
        x.unit();
        x.unit();
        x.tell(0, 0, 0, 0);
        x.tell(1, 0, 0, 0);
        x.tell(1, 1, 0, 0);
        CHECKS.refused("25 g is ABSENT of one", Checks.ARGUMENT, () -> x.sample(0, 0, 0, 1, 2, 0));
        x.sample(0, 0, 0, 1, 1, 0);
        drew("25 the other one", x, 0, 1);
        chances("27 of both", x, 0, 0, 1, 1, 1);
    }

    private static void strataRising() {
        CensusOffice x = Checks.strata(1000000, 0, -1000000);
        x.sample(0, 0, 0, 1, 1, 0);
        drew("25 -1000000 is the first stratum", x, 0, 2);
        x.sample(0, 0, 0, 1, 2, 0);
        drew("25 0 is the second", x, 1, 1, 2);
        CensusOffice y = Checks.strata(-1, -2);
        y.sample(0, 0, 0, 1, 1, 0);
        drew("25 -2 is ahead of -1", y, 0, 1);
    }

    private static void restsApartByOne() {
        CensusOffice x = Checks.strata(1, 1, 2, 2, 2);
        x.sample(0, 0, 0, 1, 1, 77);
        chances("25 the rest 3 is ahead of the rest 2", x, 0, 0, 1, 0, 1, 1, 3, 1, 3, 1, 3);
        CHECKS.due("26 one was drawn", NONE, () -> x.drawn(0, 1));
        x.sample(0, 0, 0, 1, 4, 77);
        chances("25 8 / 5 and 12 / 5: the rest 3 of the first", x, 1, 1, 1, 1, 1, 2, 3, 2, 3, 2, 3);
        CHECKS.due("26 four were drawn", NONE, () -> x.drawn(1, 4));
    }

    private static void restsOfTheSame() {
        CensusOffice x = Checks.strata(3, 2, 1, 3, 2, 1);
        x.sample(0, 0, 0, 1, 1, 0);
        chances("25 the least stratum", x, 0, 0, 1, 0, 1, 1, 2, 0, 1, 0, 1, 1, 2);
        x.sample(0, 0, 0, 1, 2, 0);
        chances("25 the next one", x, 1, 0, 1, 1, 2, 1, 2, 0, 1, 1, 2, 1, 2);
        x.sample(0, 0, 0, 1, 3, 0);
        chances("25 all three, no rests", x, 2, 1, 2, 1, 2, 1, 2, 1, 2, 1, 2, 1, 2);
        x.sample(0, 0, 0, 1, 4, 0);
        chances("25 the least stratum once more", x, 3, 1, 2, 1, 2, 1, 1, 1, 2, 1, 2, 1, 1);
    }

    private static void restsOfNothing() {
        CensusOffice x = Checks.strata(1, 1, 1, 1, 2, 2);
        x.sample(0, 0, 0, 1, 3, 0);
        chances("25 2 of 4, 1 of 2", x, 0, 1, 2, 1, 2, 1, 2, 1, 2, 1, 2, 1, 2);
        CHECKS.due("26 three were drawn", NONE, () -> x.drawn(0, 3));
    }

    private static void roundedDown() {
        CensusOffice x = Checks.strata(1, 1, 1, 1, 1, 1, 1, 2, 2, 2);
        x.sample(0, 0, 0, 1, 2, 0);
        chances("25 14 / 10 and 6 / 10: 1 and, by the greater rest, 1", x, 0, 1, 7, 1, 7, 1, 7, 1, 7, 1, 7, 1, 7, 1, 7,
                1, 3, 1, 3, 1, 3);
        x.sample(0, 0, 0, 1, 9, 0);
        chances("25 63 / 10 and 27 / 10: 6 and 3", x, 1, 6, 7, 6, 7, 6, 7, 6, 7, 6, 7, 6, 7, 6, 7, 1, 1, 1, 1, 1, 1);
    }

    /** The units with the least keys of ten, worked out apart from any program of this project. */
    private static void keysWithSign() {
        CensusOffice x = Checks.strata(1, 1, 1, 1, 1, 1, 1, 1, 1, 1);
        int[] seeds = {0, 1, -1, LEAST, MOST, 77, 0x9E3779B9};
        int[][] drawn = {{5, 6, 9}, {3, 4, 9}, {5, 7, 8}, {2, 3, 6}, {2, 4, 8}, {0, 1, 2}, {3, 7, 8}};
        for (int k = 0; k < seeds.length; k++) {
            int seed = seeds[k];
            CHECKS.due("25 seed " + seed, k, () -> x.sample(0, 0, 0, 1, 3, seed));
            drew("25 seed " + seed, x, k, drawn[k]);
        }
    }

    /** Seeds by which one of two units has the greatest key of all, the least, or one next to 0. */
    private static void keysAtTheEnds() {
        CensusOffice x = Checks.strata(1, 1);
        int[] seeds = {-1676864977, 37383062, 2126966182, -521038817, 857576350, -1389696473, 0, -1640531527};
        int[] drawn = {1, 0, 0, 1, 0, 1, 0, 1};
        for (int k = 0; k < seeds.length; k++) {
            x.sample(0, 0, 0, 1, 1, seeds[k]);
            drew("25 seed " + seeds[k], x, k, drawn[k]);
        }
    }

    private static void keysInEachStratum() {
        CensusOffice x = Checks.strata(1, 1, 1, 2, 2, 2, 3, 3, 3, 3);
        x.sample(0, 0, 0, 1, 3, 0);
        chances("25 one of each", x, 0, 1, 3, 1, 3, 1, 3, 1, 3, 1, 3, 1, 3, 1, 4, 1, 4, 1, 4, 1, 4);
        drew("25 the least key of each, negative ones first", x, 0, 0, 5, 9);
    }

    // ---- 26: drawn

    private static void drawnTakesSamples() {
        CensusOffice x = Checks.strata(1, 1);
        x.sample(0, 0, 0, 1, 1, 77);
        x.sample(0, 0, 0, 1, 2, 77);
        CHECKS.refusedFor("26 no such sample", Checks.INDEX, s -> x.drawn(s, 0), -1, 2, LEAST, MOST);
        CHECKS.row("26 the first and the last", new int[] {NONE, 1}, s -> x.drawn(s, 1));
    }

    private static void drawnTakesPlaces() {
        CensusOffice x = Checks.strata(1, 1, 1);
        x.sample(0, 0, 0, 1, 2, 77);
        CHECKS.refusedFor("26 k below 0", Checks.INDEX, k -> x.drawn(0, k), -1, LEAST);
        CHECKS.row("26 by numbers, NONE behind the last", new int[] {0, 1, NONE, NONE}, k -> x.drawn(0, k));
        CHECKS.due("26 the greatest k", NONE, () -> x.drawn(0, MOST));
    }

    // ---- 27: chance

    private static void chanceTakesSamplesAndUnits() {
        CensusOffice x = Checks.strata(1, 1);
        x.sample(0, 0, 0, 1, 1, 0);
        x.sample(0, 0, 0, 1, 2, 0);
        CHECKS.refusedFor("27 no such sample", Checks.INDEX, s -> x.chance(s, 0, true), -1, 2, LEAST, MOST);
        CHECKS.refusedFor("27 no such unit, above", Checks.INDEX, u -> x.chance(0, u, false), -1, 2, LEAST, MOST);
        CHECKS.refusedFor("27 no such unit, below", Checks.INDEX, u -> x.chance(0, u, true), -1, 2, LEAST, MOST);
        chances("27 the first", x, 0, 1, 2, 1, 2);
        chances("27 the last", x, 1, 1, 1, 1, 1);
    }

    private static void chanceInLowestTerms() {
        int[] strata = new int[100];
        CensusOffice x = Checks.strata(strata);
        int[][] terms = {{1, 1, 100}, {99, 99, 100}, {50, 1, 2}, {100, 1, 1}, {0, 0, 1}, {64, 16, 25}, {75, 3, 4}, {97, 97, 100}};
        for (int k = 0; k < terms.length; k++) {
            int sample = k;
            x.sample(0, 0, 0, 1, terms[k][0], 0);
            CHECKS.due("27 above of " + terms[k][0], terms[k][1], () -> x.chance(sample, 99, false));
            CHECKS.due("27 below of " + terms[k][0], terms[k][2], () -> x.chance(sample, 99, true));
        }
        CHECKS.refused("25 101 of 100", Checks.ARGUMENT, () -> x.sample(0, 0, 0, 1, 101, 0));
        CHECKS.due("26 the last of all hundred", 99, () -> x.drawn(3, 99));
        CHECKS.due("26 none behind it", NONE, () -> x.drawn(3, 100));
    }

    private static void chanceOfOthers() {
        CensusOffice x = Checks.strata(1, 1, 1);
        x.unit();
        x.merge(2, 1);
        x.sample(0, 0, 0, 1, 1, 0);
        x.unit();
        chances("27 merged, without VALUES, later", x, 0, 1, 2, 1, 2, 0, 1, 0, 1, 0, 1);
        x.merge(0, 1);
        chances("27 as it was", x, 0, 1, 2, 1, 2, 0, 1, 0, 1, 0, 1);
    }

    // ---- 28: overlap

    private static void overlapTakesSamples() {
        CensusOffice x = Checks.strata(1, 1);
        x.sample(0, 0, 0, 1, 1, 77);
        x.sample(0, 0, 0, 1, 2, 77);
        CHECKS.refusedFor("28 no such a", Checks.INDEX, s -> x.overlap(s, 0), -1, 2, LEAST, MOST);
        CHECKS.refusedFor("28 no such b", Checks.INDEX, s -> x.overlap(0, s), -1, 2, LEAST, MOST);
        CHECKS.due("28 the first and the last", 1, () -> x.overlap(0, 1));
        CHECKS.due("28 the last and the first", 1, () -> x.overlap(1, 0));
    }

    private static void overlapOfNoneAndAll() {
        CensusOffice x = Checks.strata(1, 1, 1, 1);
        x.sample(0, 0, 0, 1, 0, 77);
        x.sample(0, 0, 0, 1, 4, 77);
        CHECKS.due("28 none with itself", 0, () -> x.overlap(0, 0));
        CHECKS.due("28 all with themselves", 4, () -> x.overlap(1, 1));
        CHECKS.due("28 none with all", 0, () -> x.overlap(0, 1));
        x.unit();
        x.tell(4, 0, 0, 0);
        x.tell(4, 1, 0, 0);
        x.sample(0, 0, 0, 1, 5, 77);
        CHECKS.due("28 with a unit that came later", 4, () -> x.overlap(2, 1));
        CHECKS.due("28 the later one first", 4, () -> x.overlap(1, 2));
        CHECKS.due("28 five with themselves", 5, () -> x.overlap(2, 2));
    }
}
