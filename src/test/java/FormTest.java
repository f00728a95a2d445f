/** Promises 8 to 11: the tape, forms and their faults, statements. */
public final class FormTest {
    private static final Checks CHECKS = new Checks("FormTest");

    public static void main(String[] args) {
        feedAndTrim();
        formsTaken();
        faultsOfTokens();
        faultsOfNames();
        faultsOfGrammar();
        faultsOfLimits();
        emptiedAndKept();
        trimmedBytes();
        statements();
        CHECKS.end();
    }

    private static void feedAndTrim() {
        CensusOffice x = new CensusOffice();
        CHECKS.due("8 feed", 20, () -> x.feed(0, 0, 0, 0, 0));
        CHECKS.due("9 trim", 20, () -> x.trim(3));
        CHECKS.due("12 bytes", 3, () -> x.told(12));
        CHECKS.due("9 the same", 3, () -> x.trim(3));
        CHECKS.refused("9 more than it has", Checks.ARGUMENT, () -> x.trim(4));
        CHECKS.refused("9 below 0", Checks.ARGUMENT, () -> x.trim(-1));
        CHECKS.due("9 to nothing", 3, () -> x.trim(0));
        for (int k = 1; k <= 60; k++) {
            int want = k * 20;
            CHECKS.due("8 feed on", want, () -> x.feed(1, 2, 3, 4, 5));
        }
        CHECKS.refused("8 no room", Checks.ROOM, () -> x.feed(0, 0, 0, 0, 0));
        CHECKS.due("8 nothing changed", 1200, () -> x.told(12));
        x.trim(1181);
        CHECKS.refused("8 not for all twenty", Checks.ROOM, () -> x.feed(0, 0, 0, 0, 0));
        x.trim(1180);
        CHECKS.due("8 just room", 1200, () -> x.feed(0, 0, 0, 0, 0));
        CensusOffice y = new CensusOffice();
        y.feed(0x61736B20, 0x61203020, 0x393B2020, 0x20202020, 0x20202020);
        CHECKS.due("8 the highest byte first", 0, () -> y.form());
    }

    private static void formsTaken() {
        taken("ask a 0 9;");
        taken("ask a -5 -5;let b a;");
        taken("ask\ta\n0\r9;let b a+1-- 2-reg 0+reg5;must b<a or b>a and a=b;warn a<>1;");
        taken("ask abcdefgh 000000 999999 ; let a 999999 if abcdefgh >= - 1;");
        taken("let asks 1;let lets asks;must lets<=asks;");
        taken("must 1 < 2;");
        taken("let a 1 if 1=1 and 2=2 or 3=3;let b a if a>0;");
        taken("let a- 1;let b-1- -1;");
        taken("ask a 0 9;let regs 1+reg 3;let rega regs+a;");
        taken(" ask a 0 9 ; \n");
    }

    private static void taken(String text) {
        CHECKS.due("10 taken: " + text, 0, () -> Checks.form(new CensusOffice(), text));
    }

    /** The fault is where the mark ^ stands; the mark is no part of the text. */
    private static void fault(String marked) {
        int place = marked.indexOf('^');
        String text = marked.substring(0, place) + marked.substring(place + 1);
        CHECKS.due("10 fault: " + marked, -1 - place, () -> Checks.form(new CensusOffice(), text));
    }

    private static void faultsOfTokens() {
        fault("ask a 0 9;^!");
        fault("ask a 0 9;^Ask b 0 9;");
        fault("ask ^abcdefghi 0 9;");
        fault("ask a 0 ^1234567;");
        fault("ask a 0 ^9999999999999;");
        fault("let a 1 if ^12345678901 = 1;");
        fault("^\0ask a 0 9;");
        fault("ask a 0 9;^\u00ff");
        fault("ask a 0 9^\u000b;");
        fault("ask a 0 9;must a ^! = 1;");
        fault("ask a 0 9;must a = ^= 1;");
        fault("ask a 0 9;must a > ^< 1;");
        fault("ask a 0 9;must a < ^= 1;");
        fault("ask a 0 9;must a >^> 1;");
        fault("ask a 0 9;must a =^> 1;");
        fault("ask a 0 9;must a <=^> 1;");
        fault("^askk a 0 9;");
        fault("^aska 0 9;");
    }

    private static void faultsOfNames() {
        fault("ask ^if 0 9;");
        fault("ask ^reg 0 9;");
        fault("let ^and 1;");
        fault("let ^or 1;");
        fault("let ^warn 1;");
        fault("let ^must 1;");
        fault("let ^let 1;");
        fault("let ^ask 1;");
        fault("let a 1;let ^a 2;");
        fault("ask a 0 9;ask ^a 0 9;");
        fault("let a ^a;");
        fault("ask a 0 9 if ^a = 1;");
        fault("must ^a = 1;ask a 0 9;");
        fault("let a 1 + ^b;");
        fault("let a ^if;");
        fault("let a 1 if ^must = 1;");
        fault("let ^5 5;");
    }

    private static void faultsOfGrammar() {
        fault("^");
        fault("  ^");
        fault("^;");
        fault("^5;");
        fault("ask^");
        fault("ask a^");
        fault("ask a ^;");
        fault("ask a 1^");
        fault("ask a 1 ^;");
        fault("ask a 1 -^");
        fault("ask a 1 - ^;");
        fault("ask a 1 - ^- 2;");
        fault("ask a 1 ^0;");
        fault("ask a 0 ^-1;");
        fault("ask a - 1 ^- 2;");
        fault("ask a 0 9^");
        fault("ask a 0 9 ^9;");
        fault("ask a 0 ^+ 9;");
        fault("ask a 0 9 if^");
        fault("ask a 0 9 if ^;");
        fault("ask a 0 9 if 1 ^;");
        fault("ask a 0 9 if 1 = ^;");
        fault("ask a 0 9 if 1 = 1 ^= 1;");
        fault("ask a 0 9 if 1 = 1 and ^;");
        fault("ask a 0 9 if 1 = 1 or 1 ^;");
        fault("ask a 0 9 ^and 1 = 1;");
        fault("let a ^;");
        fault("let a ^+ 1;");
        fault("let a 1 ^1;");
        fault("let a 1 + ^+ 1;");
        fault("let a 1 - - ^- 1;");
        fault("let a 1;let b - ^a;");
        fault("let a reg ^6;");
        fault("let a reg ^;");
        fault("let a reg ^- 1;");
        fault("let a - ^reg 1;");
        fault("let a 1 ^< 2;");
        fault("must ^if 1 = 1;");
        fault("must 1 = 1 ^if 1 = 1;");
        fault("must 1^;");
        fault("must 1 = 1^");
        fault("must 1 = 1 ^must 1 = 1;");
        fault("warn 1 + 1 ^+;".replace("^+;", "+ ^;"));
        fault("ask a 0 9;;".replace(";;", ";^;"));
    }

    private static void faultsOfLimits() {
        StringBuilder twenty = new StringBuilder();
        for (int k = 0; k < 20; k++) {
            twenty.append("must 1=1;");
        }
        taken(twenty.toString());
        taken(twenty + " \n");
        fault(twenty + "^must 1=1;");
        fault(twenty + " ^;");
        fault(twenty + " ^!");
        StringBuilder ten = new StringBuilder();
        for (int k = 0; k < 10; k++) {
            ten.append("ask ").append((char) ('a' + k)).append(" 0 9;");
        }
        taken(ten.toString());
        fault(ten + "^ask k 0 9;");
        fault(ten + "^ask");
        taken(ten + "let k 1;must a+b+c+d+e+f+g+h+i+j+k=1;");
        fault(ten + "let k 1;must a=j;^ask");
    }

    private static void emptiedAndKept() {
        CensusOffice x = new CensusOffice();
        CHECKS.due("10 a fault", -1, () -> Checks.form(x, "!"));
        CHECKS.due("10 emptied with a fault", 0, () -> x.told(12));
        CHECKS.due("10 no form by it", 0, () -> x.told(3));
        for (int k = 0; k < 6; k++) {
            int want = k;
            CHECKS.due("10 form", want, () -> Checks.form(x, "must 1=1;"));
            CHECKS.due("10 emptied", 0, () -> x.told(12));
        }
        Checks.write(x, "must 1=1;");
        CHECKS.refused("10 no room", Checks.ROOM, () -> x.form());
        CHECKS.due("10 the tape stays", 9, () -> x.told(12));
        CHECKS.due("10 six", 6, () -> x.told(3));
        CensusOffice y = new CensusOffice();
        Checks.write(y, "ask a 0");
        Checks.write(y, " 9;");
        CHECKS.due("10 of two writings", 0, () -> y.form());
        CHECKS.due("10 an empty tape", -1, () -> y.form());
    }

    /** What was trimmed away is no part of a token at the end, though its bytes go on with it. */
    private static void trimmedBytes() {
        trimmed("must 1=1;must 2=2", "34;");
        trimmed("let a 1;must 1=a", "b<2;");
        trimmed("must 1 <", "= 2;");
        trimmed("must 1 >", "= 2;");
        trimmed("must 1=1", ";");
        trimmed("must 1=1", " ;");
        trimmed("must 1=1 ", ";");
    }

    private static void trimmed(String kept, String more) {
        CensusOffice x = new CensusOffice();
        Checks.write(x, kept + more);
        x.trim(kept.length());
        CHECKS.due("10 trimmed: " + kept, -1 - kept.length(), () -> x.form());
    }

    private static void statements() {
        CensusOffice x = new CensusOffice();
        Checks.form(x, "ask a -7 9;let b a;must a=b;warn a<>b;");
        int[][] want = {{0, -7, 9, 1}, {1, 0, 0, 0}, {2, 0, 0, 0}, {3, 0, 0, 0}};
        for (int s = 0; s < 4; s++) {
            for (int what = 0; what < 4; what++) {
                int statement = s;
                int asked = what;
                CHECKS.due("11 statement " + s + " " + what, want[s][what],
                        () -> x.statement(0, statement, asked));
            }
        }
        CHECKS.refused("11 form", Checks.INDEX, () -> x.statement(1, 0, 9));
        CHECKS.refused("11 form below", Checks.INDEX, () -> x.statement(-1, 0, 0));
        CHECKS.refused("11 statement", Checks.INDEX, () -> x.statement(0, 4, 9));
        CHECKS.refused("11 statement below", Checks.INDEX, () -> x.statement(0, -1, 0));
        CHECKS.refused("11 what", Checks.ARGUMENT, () -> x.statement(0, 0, 4));
        CHECKS.refused("11 what below", Checks.ARGUMENT, () -> x.statement(0, 0, -1));
    }
}
