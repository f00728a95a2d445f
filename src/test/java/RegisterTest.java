/** Promises 1 to 7: a new object, the clock, units, tellings, merges, values, lasts. */
public final class RegisterTest {
    private static final int ABSENT = CensusOffice.ABSENT;
    private static final Checks CHECKS = new Checks("RegisterTest");

    public static void main(String[] args) {
        newObject();
        clock();
        units();
        tellings();
        tellingsRefused();
        tellingsFull();
        merges();
        values();
        valuesAsKnown();
        valuesOfMerged();
        CHECKS.end();
    }

    private static void newObject() {
        CensusOffice x = new CensusOffice();
        for (int what = 0; what <= 14; what++) {
            int asked = what;
            CHECKS.due("1 told " + what, 0, () -> x.told(asked));
        }
        CHECKS.refused("1 no unit", Checks.INDEX, () -> x.last(0));
        CHECKS.refused("1 no session", Checks.INDEX, () -> x.question(0));
        CHECKS.refused("1 no record", Checks.INDEX, () -> x.item(0, 0));
        CHECKS.refused("1 no form", Checks.INDEX, () -> x.statement(0, 0, 0));
    }

    private static void clock() {
        CensusOffice x = new CensusOffice();
        CHECKS.due("2 tick 0", 0, () -> x.tick(0));
        CHECKS.due("2 tick 1439", 1439, () -> x.tick(1439));
        CHECKS.due("2 day 0 yet", 0, () -> x.told(14));
        CHECKS.due("2 tick 1", 1440, () -> x.tick(1));
        CHECKS.due("2 day 1", 1, () -> x.told(14));
        CHECKS.refused("2 tick -1", Checks.ARGUMENT, () -> x.tick(-1));
        CHECKS.refused("2 tick 1000001", Checks.ARGUMENT, () -> x.tick(1000001));
        CHECKS.refused("2 tick great", Checks.ARGUMENT, () -> x.tick(Integer.MAX_VALUE));
        CHECKS.due("2 nothing changed", 1440, () -> x.told(13));
        for (int k = 1; k <= 99; k++) {
            int want = 1440 + k * 1000000;
            CHECKS.due("2 tick on", want, () -> x.tick(1000000));
        }
        CHECKS.refused("2 beyond the last minute", Checks.ARGUMENT, () -> x.tick(998561));
        CHECKS.due("2 to the last minute", 100000000, () -> x.tick(998560));
        CHECKS.due("2 no minute more", 100000000, () -> x.tick(0));
        CHECKS.refused("2 one more", Checks.ARGUMENT, () -> x.tick(1));
        CHECKS.due("2 the last day", 69444, () -> x.told(14));
    }

    private static void units() {
        CensusOffice x = new CensusOffice();
        for (int k = 0; k < 100; k++) {
            int want = k;
            CHECKS.due("3 unit", want, () -> x.unit());
        }
        CHECKS.refused("3 no room", Checks.ROOM, () -> x.unit());
        CHECKS.due("3 still 100", 100, () -> x.told(0));
        CHECKS.due("7 the last of the last", 99, () -> x.last(99));
        CHECKS.refused("7 unit 100", Checks.INDEX, () -> x.last(100));
        CHECKS.refused("7 unit -1", Checks.INDEX, () -> x.last(-1));
    }

    private static void tellings() {
        CensusOffice x = new CensusOffice();
        x.unit();
        CHECKS.due("4 first", 1, () -> x.tell(0, 0, 0, 7));
        CHECKS.due("4 least", 2, () -> x.tell(0, 5, 0, -1000000));
        CHECKS.due("4 greatest", 3, () -> x.tell(0, 5, 100000, 1000000));
        CHECKS.due("4 told", 3, () -> x.told(1));
        CHECKS.due("6 least", -1000000, () -> x.value(0, 5, 99999, 0));
        CHECKS.due("6 greatest", 1000000, () -> x.value(0, 5, 100000, 0));
        CHECKS.due("6 far day", 1000000, () -> x.value(0, 5, Integer.MAX_VALUE, Integer.MAX_VALUE));
    }

    private static void tellingsRefused() {
        CensusOffice x = new CensusOffice();
        x.unit();
        x.unit();
        x.merge(0, 1);
        CHECKS.refused("4 unit", Checks.INDEX, () -> x.tell(2, 0, -1, 0));
        CHECKS.refused("4 unit below", Checks.INDEX, () -> x.tell(-1, 0, 0, 0));
        CHECKS.refused("4 field", Checks.INDEX, () -> x.tell(0, 6, -1, 0));
        CHECKS.refused("4 field below", Checks.INDEX, () -> x.tell(0, -1, 0, 1000001));
        CHECKS.refused("4 day ahead of merged", Checks.ARGUMENT, () -> x.tell(0, 0, -1, 0));
        CHECKS.refused("4 day", Checks.ARGUMENT, () -> x.tell(1, 0, 100001, 0));
        CHECKS.refused("4 number", Checks.ARGUMENT, () -> x.tell(1, 0, 0, 1000001));
        CHECKS.refused("4 number below", Checks.ARGUMENT, () -> x.tell(1, 0, 0, -1000001));
        CHECKS.refused("4 absent", Checks.ARGUMENT, () -> x.tell(1, 0, 0, ABSENT));
        CHECKS.refused("4 merged", Checks.STATE, () -> x.tell(0, 0, 0, 0));
        CHECKS.due("4 none told", 0, () -> x.told(1));
        CHECKS.due("4 the one it went into", 1, () -> x.tell(1, 0, 0, 0));
    }

    /** Far behind the 512th call, where the document promises nothing: the limit stands all the same. */
    private static void tellingsFull() {
        CensusOffice x = new CensusOffice();
        x.unit();
        x.unit();
        x.merge(1, 0);
        for (int k = 0; k < 1499; k++) {
            x.tell(0, 0, k, k);
        }
        CHECKS.due("4 the 1500th", 1500, () -> x.tell(0, 0, 1499, 1499));
        CHECKS.refused("4 no room", Checks.ROOM, () -> x.tell(0, 0, 0, 0));
        CHECKS.refused("4 merged first", Checks.STATE, () -> x.tell(1, 0, 0, 0));
        CHECKS.refused("4 a number first", Checks.ARGUMENT, () -> x.tell(0, 0, 0, 1000001));
        CHECKS.refused("4 a field first", Checks.INDEX, () -> x.tell(0, 6, 0, 0));
        CHECKS.due("4 refused: 1500", 1500, () -> x.told(1));
        CHECKS.due("6 the last telling", 1499, () -> x.value(0, 0, 1500, 0));
    }

    private static void merges() {
        CensusOffice x = new CensusOffice();
        for (int k = 0; k < 5; k++) {
            x.unit();
        }
        CHECKS.due("5 merge", 1, () -> x.merge(0, 1));
        CHECKS.due("5 through a merged one", 1, () -> x.merge(2, 0));
        CHECKS.due("7 last of 2", 1, () -> x.last(2));
        CHECKS.due("5 on", 3, () -> x.merge(1, 3));
        CHECKS.due("7 last of all", 3, () -> x.last(2));
        CHECKS.due("7 itself", 4, () -> x.last(4));
        CHECKS.refused("5 unit", Checks.INDEX, () -> x.merge(5, 0));
        CHECKS.refused("5 into", Checks.INDEX, () -> x.merge(0, 5));
        CHECKS.refused("5 below", Checks.INDEX, () -> x.merge(0, -1));
        CHECKS.refused("5 again", Checks.STATE, () -> x.merge(0, 4));
        CHECKS.refused("5 into itself", Checks.STATE, () -> x.merge(4, 4));
        CHECKS.refused("5 round", Checks.STATE, () -> x.merge(3, 2));
        CHECKS.due("5 told", 3, () -> x.told(2));
    }

    private static void values() {
        CensusOffice x = new CensusOffice();
        x.unit();
        x.unit();
        CHECKS.due("6 nothing told", ABSENT, () -> x.value(0, 0, 0, 0));
        x.tell(0, 0, 5, 50);
        x.tell(0, 0, 3, 30);
        x.tell(0, 0, 5, 51);
        x.tell(0, 1, 0, 9);
        x.tell(1, 0, 4, 44);
        CHECKS.due("6 ahead of all", ABSENT, () -> x.value(0, 0, 2, 0));
        CHECKS.due("6 on its day", 30, () -> x.value(0, 0, 3, 0));
        CHECKS.due("6 behind it", 30, () -> x.value(0, 0, 4, 0));
        CHECKS.due("6 told last", 51, () -> x.value(0, 0, 5, 0));
        CHECKS.due("6 another field", 9, () -> x.value(0, 1, 5, 0));
        CHECKS.due("6 another unit", 44, () -> x.value(1, 0, 5, 0));
        CHECKS.refused("6 unit", Checks.INDEX, () -> x.value(2, 0, -1, 0));
        CHECKS.refused("6 unit below", Checks.INDEX, () -> x.value(-1, 0, 0, 0));
        CHECKS.refused("6 field", Checks.INDEX, () -> x.value(0, 6, 0, -1));
        CHECKS.refused("6 field below", Checks.INDEX, () -> x.value(0, -1, 0, 0));
        CHECKS.refused("6 day", Checks.ARGUMENT, () -> x.value(0, 0, -1, 0));
        CHECKS.refused("6 known", Checks.ARGUMENT, () -> x.value(0, 0, 0, -1));
    }

    private static void valuesAsKnown() {
        CensusOffice x = new CensusOffice();
        x.unit();
        x.tick(1440);
        x.tell(0, 0, 0, 1);
        x.tick(1440);
        x.tell(0, 0, 0, 2);
        CHECKS.due("6 known ahead", ABSENT, () -> x.value(0, 0, 9, 0));
        CHECKS.due("6 known then", 1, () -> x.value(0, 0, 9, 1));
        CHECKS.due("6 known now", 2, () -> x.value(0, 0, 9, 2));
        CHECKS.due("6 known later", 2, () -> x.value(0, 0, 9, 100));
    }

    private static void valuesOfMerged() {
        CensusOffice x = new CensusOffice();
        for (int k = 0; k < 4; k++) {
            x.unit();
        }
        x.tell(0, 0, 1, 10);
        x.tell(1, 0, 2, 20);
        x.tell(2, 0, 2, 30);
        x.tick(1440);
        x.merge(0, 1);
        x.tick(1440);
        x.merge(1, 2);
        CHECKS.due("6 not yet merged", 10, () -> x.value(0, 0, 5, 0));
        CHECKS.due("6 merged with 1", 20, () -> x.value(0, 0, 5, 1));
        CHECKS.due("6 of 1 on day 1", 10, () -> x.value(1, 0, 1, 1));
        CHECKS.due("6 of 2 apart", ABSENT, () -> x.value(2, 0, 1, 1));
        CHECKS.due("6 merged with 2, told last", 30, () -> x.value(0, 0, 5, 2));
        CHECKS.due("6 of 2 by 0", 10, () -> x.value(2, 0, 1, 2));
        CHECKS.due("6 of 3", ABSENT, () -> x.value(3, 0, 5, 2));
        CHECKS.due("7 last now", 2, () -> x.last(0));
    }
}
