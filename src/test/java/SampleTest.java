/** Promises 25 to 28: samples, what they drew, chances, overlaps. */
public final class SampleTest {
    private static final int NONE = CensusOffice.NONE;
    private static final Checks CHECKS = new Checks("SampleTest");

    public static void main(String[] args) {
        frames();
        allotments();
        restsOfTheSame();
        keys();
        keysAlike();
        hundredUnits();
        refusals();
        laterUnits();
        overlaps();
        CHECKS.end();
    }

    private static int key(int seed, int unit) {
        int h = seed ^ (unit * 0x9E3779B9);
        h *= 0x85EBCA6B;
        h ^= h >>> 13;
        h *= 0xC2B2AE35;
        return h ^ (h >>> 16);
    }

    private static void frames() {
        CensusOffice x = new CensusOffice();
        for (int k = 0; k < 7; k++) {
            x.unit();
        }
        int[] numbers = {4, 5, 9, 10, 7, 7, 7};
        for (int k = 0; k < 7; k++) {
            x.tell(k, 2, k == 6 ? 1 : 0, numbers[k]);
            if (k != 5) {
                x.tell(k, 3, 0, 1);
            }
        }
        x.merge(4, 0);
        CHECKS.refused("25 three units are in the frame", Checks.ARGUMENT, () -> x.sample(2, 5, 9, 3, 4, 1));
        CHECKS.due("25 all of them", 0, () -> x.sample(2, 5, 9, 3, 3, 1));
        CHECKS.due("26 the one with a merged one's number", 0, () -> x.drawn(0, 0));
        CHECKS.due("26 the least number", 1, () -> x.drawn(0, 1));
        CHECKS.due("26 the greatest number", 2, () -> x.drawn(0, 2));
        CHECKS.due("26 no more", NONE, () -> x.drawn(0, 3));
        CHECKS.due("27 merged, above", 0, () -> x.chance(0, 4, false));
        CHECKS.due("27 outside, above", 0, () -> x.chance(0, 3, false));
        CHECKS.due("27 outside, below", 1, () -> x.chance(0, 3, true));
        CHECKS.due("27 without a stratum", 1, () -> x.chance(0, 5, true));
        CHECKS.due("27 certain, above", 1, () -> x.chance(0, 1, false));
        CHECKS.due("27 certain, below", 1, () -> x.chance(0, 1, true));
        x.tick(1440);
        CHECKS.due("25 a day on 6 is there", 1, () -> x.sample(2, 5, 9, 3, 4, 1));
        CHECKS.due("26 it was drawn", 6, () -> x.drawn(1, 3));
        CHECKS.due("25 what is absent is in no range", 2, () -> x.sample(4, Integer.MIN_VALUE, 0, 3, 0, 1));
        CHECKS.due("26 nothing", NONE, () -> x.drawn(2, 0));
        CHECKS.due("25 an empty range", 3, () -> x.sample(2, 9, 5, 3, 0, 1));
        CHECKS.refused("25 nobody in it", Checks.ARGUMENT, () -> x.sample(2, 9, 5, 3, 1, 1));
    }

    private static void allotments() {
        CensusOffice x = Checks.strata(7, 7, 7, 7, 7, -3, -3, -3, 0, 0);
        x.sample(0, 0, 0, 1, 4, 99);
        int[] above = {2, 2, 2, 2, 2, 1, 1, 1, 1, 1};
        int[] below = {5, 5, 5, 5, 5, 3, 3, 3, 2, 2};
        for (int k = 0; k < 10; k++) {
            int unit = k;
            CHECKS.due("27 above " + k, above[k], () -> x.chance(0, unit, false));
            CHECKS.due("27 below " + k, below[k], () -> x.chance(0, unit, true));
        }
        CHECKS.due("26 four units, the fifth", NONE, () -> x.drawn(0, 4));
        CensusOffice y = Checks.strata(1, 1, 1, 1, 2, 2);
        y.sample(0, 0, 0, 1, 3, 5);
        CHECKS.due("27 lowest terms, above", 1, () -> y.chance(0, 0, false));
        CHECKS.due("27 lowest terms, below", 2, () -> y.chance(0, 0, true));
        y.sample(0, 0, 0, 1, 0, 5);
        CHECKS.due("27 nothing got, above", 0, () -> y.chance(1, 0, false));
        CHECKS.due("27 nothing got, below", 1, () -> y.chance(1, 0, true));
    }

    private static void restsOfTheSame() {
        CensusOffice x = Checks.strata(5, 5, 2, 2, 9, 9);
        x.sample(0, 0, 0, 1, 1, 3);
        CHECKS.due("25 the lesser stratum first", 1, () -> x.chance(0, 2, false));
        CHECKS.due("27 by 2", 2, () -> x.chance(0, 2, true));
        CHECKS.due("25 not 5", 0, () -> x.chance(0, 0, false));
        x.sample(0, 0, 0, 1, 2, 3);
        CHECKS.due("25 then 5", 1, () -> x.chance(1, 0, false));
        CHECKS.due("25 not 9", 0, () -> x.chance(1, 4, false));
        CensusOffice y = Checks.strata(1, 2, 2, 2);
        y.sample(0, 0, 0, 1, 1, 3);
        CHECKS.due("25 the greatest rest", 0, () -> y.chance(0, 0, false));
        CHECKS.due("27 of three", 3, () -> y.chance(0, 1, true));
    }

    private static void keys() {
        int[] strata = new int[30];
        for (int seed = -3; seed <= 3; seed++) {
            CensusOffice x = Checks.strata(strata);
            int used = seed * 0x12345678;
            x.sample(0, 0, 0, 1, 11, used);
            int seen = 0;
            for (int k = 0; k < 30; k++) {
                int ahead = 0;
                for (int other = 0; other < 30; other++) {
                    ahead += key(used, other) < key(used, k) ? 1 : 0;
                }
                if (ahead < 11) {
                    int unit = k;
                    int place = seen;
                    CHECKS.due("25 the least keys", unit, () -> x.drawn(0, place));
                    seen++;
                }
            }
            CHECKS.due("26 eleven", NONE, () -> x.drawn(0, 11));
        }
    }

    /** Seeds by which the keys of units 0 and 1 have the same upper half: the lower one decides. */
    private static void keysAlike() {
        int[] seeds = {113413, 161289, 329303, 363982, 410861};
        int[] drawn = {0, 0, 0, 1, 0};
        for (int k = 0; k < seeds.length; k++) {
            CensusOffice x = Checks.strata(1, 1);
            x.sample(0, 0, 0, 1, 1, seeds[k]);
            CHECKS.due("25 seed " + seeds[k], drawn[k], () -> x.drawn(0, 0));
        }
    }

    private static void hundredUnits() {
        int[] strata = new int[100];
        for (int k = 0; k < 100; k++) {
            strata[k] = k % 50;
        }
        CensusOffice x = Checks.strata(strata);
        x.sample(0, 0, 0, 1, 50, 8);
        CHECKS.due("26 the last of fifty", CensusOffice.NONE, () -> x.drawn(0, 50));
        CHECKS.due("27 one of two", 2, () -> x.chance(0, 99, true));
        x.sample(0, 0, 0, 1, 100, 8);
        CHECKS.due("26 the last of all", 99, () -> x.drawn(1, 99));
        CHECKS.due("28 fifty", 50, () -> x.overlap(0, 1));
    }

    private static void refusals() {
        CensusOffice x = Checks.strata(1, 1);
        CHECKS.refused("25 f", Checks.INDEX, () -> x.sample(6, 0, 0, 1, -1, 0));
        CHECKS.refused("25 f below", Checks.INDEX, () -> x.sample(-1, 0, 0, 1, 0, 0));
        CHECKS.refused("25 g", Checks.INDEX, () -> x.sample(0, 0, 0, 6, 9, 0));
        CHECKS.refused("25 g below", Checks.INDEX, () -> x.sample(0, 0, 0, -1, 0, 0));
        CHECKS.refused("25 n below", Checks.ARGUMENT, () -> x.sample(0, 0, 0, 1, -1, 0));
        CHECKS.refused("25 n", Checks.ARGUMENT, () -> x.sample(0, 0, 0, 1, 3, 0));
        CHECKS.refused("26 sample", Checks.INDEX, () -> x.drawn(0, 0));
        CHECKS.refused("27 sample", Checks.INDEX, () -> x.chance(0, 0, true));
        CHECKS.refused("28 sample", Checks.INDEX, () -> x.overlap(0, 0));
        for (int k = 0; k < 12; k++) {
            int want = k;
            CHECKS.due("25 sample", want, () -> x.sample(0, 0, 0, 1, 2, 0));
        }
        CHECKS.refused("25 no room", Checks.ROOM, () -> x.sample(0, 0, 0, 1, 2, 0));
        CHECKS.refused("25 an argument first", Checks.ARGUMENT, () -> x.sample(0, 0, 0, 1, 3, 0));
        CHECKS.due("39 samples", 12, () -> x.told(7));
        CHECKS.refused("26 k", Checks.INDEX, () -> x.drawn(0, -1));
        CHECKS.due("26 a great k", NONE, () -> x.drawn(0, Integer.MAX_VALUE));
        CHECKS.refused("27 unit", Checks.INDEX, () -> x.chance(0, 2, true));
        CHECKS.refused("27 unit below", Checks.INDEX, () -> x.chance(0, -1, true));
        CHECKS.refused("28 a", Checks.INDEX, () -> x.overlap(12, 0));
        CHECKS.refused("28 b", Checks.INDEX, () -> x.overlap(0, -1));
    }

    private static void laterUnits() {
        CensusOffice x = Checks.strata(1, 1);
        x.sample(0, 0, 0, 1, 2, 0);
        x.unit();
        CHECKS.due("27 later, above", 0, () -> x.chance(0, 2, false));
        CHECKS.due("27 later, below", 1, () -> x.chance(0, 2, true));
        x.merge(0, 1);
        x.tell(1, 1, 0, 9);
        CHECKS.due("26 a sample stays", 0, () -> x.drawn(0, 0));
        CHECKS.due("27 a chance stays", 1, () -> x.chance(0, 0, false));
    }

    private static void overlaps() {
        CensusOffice x = Checks.strata(1, 1, 1, 2, 2, 2);
        x.sample(0, 0, 0, 1, 6, 0);
        x.sample(0, 0, 0, 1, 2, 4);
        x.sample(0, 0, 0, 1, 0, 4);
        CHECKS.due("28 with itself", 6, () -> x.overlap(0, 0));
        CHECKS.due("28 both", 2, () -> x.overlap(0, 1));
        CHECKS.due("28 both, turned", 2, () -> x.overlap(1, 0));
        CHECKS.due("28 with nothing", 0, () -> x.overlap(2, 0));
        x.unit();
        x.tell(6, 0, 0, 0);
        x.tell(6, 1, 0, 3);
        x.sample(0, 0, 0, 1, 7, 4);
        CHECKS.due("28 with more units", 6, () -> x.overlap(0, 3));
    }
}
