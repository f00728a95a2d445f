/** Counts what is not as it is due; each test makes one, and ends with it. */
final class Checks {
    interface Call {
        int answer();
    }

    interface CallOf {
        int answer(int k);
    }

    static final Class<IndexOutOfBoundsException> INDEX = IndexOutOfBoundsException.class;
    static final Class<IllegalArgumentException> ARGUMENT = IllegalArgumentException.class;
    static final Class<IllegalStateException> STATE = IllegalStateException.class;
    static final Class<UnsupportedOperationException> ROOM = UnsupportedOperationException.class;

    private static final int MOST_PRINTED = 40;
    private final String name;
    private int wrong = 0;
    private int made = 0;

    Checks(String name) {
        this.name = name;
    }

    void due(String what, int want, Call call) {
        made++;
        try {
            int got = call.answer();
            if (got != want) {
                report(what, "answered " + got + ", due is " + want);
            }
        } catch (RuntimeException e) {
            report(what, "threw " + e + ", due is " + want);
        }
    }

    /** The very class, thrown by the office itself: what the machine or a list throws is not taken for it. */
    void refused(String what, Class<? extends RuntimeException> want, Call call) {
        made++;
        try {
            int got = call.answer();
            report(what, "answered " + got + ", due is " + want.getName());
        } catch (RuntimeException e) {
            if (e.getClass() != want || !e.getStackTrace()[0].getClassName().startsWith("CensusOffice")) {
                report(what, "threw " + e + " at " + e.getStackTrace()[0] + ", due is " + want.getName());
            }
        }
    }

    /** The answers of a call for 0, 1, 2 and so on. */
    void row(String what, int[] want, CallOf call) {
        for (int k = 0; k < want.length; k++) {
            int asked = k;
            due(what + ", " + k, want[k], () -> call.answer(asked));
        }
    }

    /** Each of the calls is refused by the same exception; they are told apart by their place. */
    void allRefused(String what, Class<? extends RuntimeException> want, Call... calls) {
        for (int k = 0; k < calls.length; k++) {
            refused(what + ", call " + k, want, calls[k]);
        }
    }

    /** A call is refused for each of the numbers. */
    void refusedFor(String what, Class<? extends RuntimeException> want, CallOf call, int... numbers) {
        for (int number : numbers) {
            refused(what + ", " + number, want, () -> call.answer(number));
        }
    }

    void report(String what, String how) {
        wrong++;
        if (wrong <= MOST_PRINTED) {
            System.out.println(name + ": " + what + " " + how);
        }
    }

    int wrong() {
        return wrong;
    }

    void end() {
        System.out.println(name + ": " + made + " checks, " + wrong + " wrong");
        if (wrong != 0) {
            System.exit(1);
        }
    }

    /** Puts a text behind the tape by feeds of twenty bytes, and trims what they bring too much. */
    static void write(CensusOffice office, String text) {
        int had = office.told(12);
        for (int at = 0; at < text.length(); at += 20) {
            office.feed(four(text, at), four(text, at + 4), four(text, at + 8),
                    four(text, at + 12), four(text, at + 16));
        }
        office.trim(had + text.length());
    }

    static int form(CensusOffice office, String text) {
        write(office, text);
        return office.form();
    }

    /** An office with one unit and one form. */
    static CensusOffice office(String text) {
        CensusOffice office = new CensusOffice();
        office.unit();
        form(office, text);
        return office;
    }

    /** Units with field 0 at 0, and their strata in field 1. */
    static CensusOffice strata(int... strata) {
        CensusOffice office = new CensusOffice();
        for (int unit = 0; unit < strata.length; unit++) {
            office.unit();
            office.tell(unit, 0, 0, 0);
            office.tell(unit, 1, 0, strata[unit]);
        }
        return office;
    }

    static int four(String text, int at) {
        int bytes = 0;
        for (int k = at; k < at + 4; k++) {
            bytes = bytes << 8 | (k < text.length() ? text.charAt(k) & 255 : 0);
        }
        return bytes;
    }

    /** Opens a session, answers it, and closes it: the record's number. */
    static int record(CensusOffice office, int form, int unit, int... answers) {
        int session = office.open(form, unit);
        for (int v : answers) {
            office.answer(session, v);
        }
        return office.close(session);
    }
}
