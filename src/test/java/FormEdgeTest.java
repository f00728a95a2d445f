/**
 * THE TAPE, FORMS and promises 8 to 11: each sentence that names an edge has a method of its own
 * here, with the last input that is taken and the first that is refused or at fault.
 */
public final class FormEdgeTest {
    private static final int LEAST = Integer.MIN_VALUE;
    private static final int MOST = Integer.MAX_VALUE;
    private static final String[] KEPT = {"ask", "let", "must", "warn", "if", "and", "or", "reg"};
    private static final Checks CHECKS = new Checks("FormEdgeTest");

    public static void main(String[] args) {
        feedBringsTwenty();
        feedHighestFirst();
        feedStopsAtTwelveHundred();
        feedNeedsRoomForAll();
        feedRefusedChangesNothing();
        trimTakesNoneToAll();
        trimRefusedChangesNothing();
        trimmedBytesAreGone();
        tapeOfTwelveHundred();
        faultBehindTwelveHundred();
        formsAreSix();
        formEmptiesTheTape();
        oneToTwentyStatements();
        tenAsks();
        eachWithSemicolon();
        anyByteBetweenStatements();
        anyByteInsideExpression();
        anyByteBetweenNumbers();
        blanksBetweenOrNot();
        tokensAsLongAsMayBe();
        relationsOfTwoBytes();
        wordsOfEightLetters();
        numbersOfSixDigits();
        keptWordsAreNoNames();
        nearlyKeptWordsAreNames();
        namesToldOnce();
        namesUsedBehind();
        boundsOfAsk();
        regOfSix();
        minusOfNumbersAlone();
        condOnlyBehindIf();
        endsTooSoon();
        statementTakesForms();
        statementTakesStatements();
        statementTakesWhat();
        statementOfEachSort();
        CHECKS.end();
    }

    private static void taken(String text) {
        CHECKS.due("10 taken: " + shown(text), 0, () -> Checks.form(new CensusOffice(), text));
    }

    private static void faultAt(int place, String text) {
        CHECKS.due("10 fault at " + place + ": " + shown(text), -1 - place, () -> Checks.form(new CensusOffice(), text));
    }

    private static String shown(String text) {
        return text.length() <= 100 ? text : text.substring(0, 40) + ".." + text.length();
    }

    /** The fault is where the mark ^ stands; the mark is no part of the text. */
    private static void fault(String marked) {
        int place = marked.indexOf('^');
        faultAt(place, marked.substring(0, place) + marked.substring(place + 1));
    }

    private static String times(int count, String text) {
        return text.repeat(count);
    }

    // ---- 8: feed

    private static void feedBringsTwenty() {
        CensusOffice x = new CensusOffice();
        CHECKS.row("8 twenty bytes more", new int[] {20, 40, 60}, k -> x.feed(0, 0, 0, 0, 0));
        CHECKS.due("39 bytes of THE TAPE", 60, () -> x.told(12));
    }

    private static void feedHighestFirst() {
        CensusOffice x = new CensusOffice();
        // "ask a 0 9;let b a-9;": each of the twenty bytes has its place
        x.feed(0x61736B20, 0x61203020, 0x393B6C65, 0x74206220, 0x612D393B);
        CHECKS.due("8 in their order", 0, () -> x.form());
        CHECKS.due("11 the first statement", 9, () -> x.statement(0, 0, 2));
        CHECKS.due("11 the second statement", 1, () -> x.statement(0, 1, 0));
        x.feed(0xFF000000, 0, 0, 0, 0);
        CHECKS.due("8 a byte above 127 is a fault like others", -1, () -> x.form());
    }

    private static void feedStopsAtTwelveHundred() {
        CensusOffice x = new CensusOffice();
        for (int k = 1; k < 60; k++) {
            x.feed(0, 0, 0, 0, 0);
        }
        CHECKS.due("8 the 60th feed", 1200, () -> x.feed(0, 0, 0, 0, 0));
        CHECKS.refused("8 more than 1200", Checks.ROOM, () -> x.feed(0, 0, 0, 0, 0));
        CHECKS.due("8 refused: still 1200", 1200, () -> x.told(12));
    }

    private static void feedNeedsRoomForAll() {
        CensusOffice x = new CensusOffice();
        for (int k = 1; k <= 60; k++) {
            x.feed(0, 0, 0, 0, 0);
        }
        x.trim(1199);
        CHECKS.refused("8 one byte of room", Checks.ROOM, () -> x.feed(0, 0, 0, 0, 0));
        x.trim(1181);
        CHECKS.refused("8 19 bytes of room", Checks.ROOM, () -> x.feed(0, 0, 0, 0, 0));
        CHECKS.due("8 refused: not one of them came", 1181, () -> x.told(12));
        x.trim(1180);
        CHECKS.due("8 20 bytes of room", 1200, () -> x.feed(0, 0, 0, 0, 0));
    }

    private static void feedRefusedChangesNothing() {
        CensusOffice x = new CensusOffice();
        Checks.write(x, "must 1=1;" + times(1191, " "));
        CHECKS.refused("8 no room", Checks.ROOM, () -> x.feed(-1, -1, -1, -1, -1));
        x.trim(1190);
        CHECKS.refused("8 no room for all", Checks.ROOM, () -> x.feed(-1, -1, -1, -1, -1));
        CHECKS.due("8 refused: the form is as it was", 0, () -> x.form());
    }

    // ---- 9: trim

    private static void trimTakesNoneToAll() {
        CensusOffice x = new CensusOffice();
        CHECKS.due("9 nothing of nothing", 0, () -> x.trim(0));
        CHECKS.refused("9 one of nothing", Checks.ARGUMENT, () -> x.trim(1));
        x.feed(0, 0, 0, 0, 0);
        CHECKS.refusedFor("9 n below 0, or not so many", Checks.ARGUMENT, n -> x.trim(n), -1, 21, LEAST, MOST);
        CHECKS.due("9 all of them", 20, () -> x.trim(20));
        CHECKS.due("9 all but one", 20, () -> x.trim(19));
        CHECKS.refused("9 the one is gone", Checks.ARGUMENT, () -> x.trim(20));
        CHECKS.due("9 the first one", 19, () -> x.trim(1));
        CHECKS.due("9 none", 1, () -> x.trim(0));
        CHECKS.due("39 an empty tape", 0, () -> x.told(12));
    }

    private static void trimRefusedChangesNothing() {
        CensusOffice x = new CensusOffice();
        Checks.write(x, "must 1=1;");
        CHECKS.refusedFor("9 refused", Checks.ARGUMENT, n -> x.trim(n), -1, 10);
        CHECKS.due("9 refused: the bytes", 9, () -> x.told(12));
        CHECKS.due("9 refused: the form", 0, () -> x.form());
    }

    private static void trimmedBytesAreGone() {
        CensusOffice x = new CensusOffice();
        Checks.write(x, "must 1=1;!!!!");
        x.trim(9);
        Checks.write(x, "must 2=2;");
        CHECKS.due("9 the next ones come behind the kept ones", 0, () -> x.form());
        CHECKS.due("11 two statements", 2, () -> x.statement(0, 1, 0));
        CensusOffice y = new CensusOffice();
        Checks.write(y, "must 1=1;");
        y.trim(8);
        CHECKS.due("9 without its last byte", -1 - 8, () -> y.form());
    }

    // ---- 10: form

    private static void tapeOfTwelveHundred() {
        taken("must 1" + times(595, "+1") + " =1;");
        taken(times(1191, " ") + "must 1=1;");
        taken("must 1=1;" + times(1191, "\n"));
        taken("must 1=1" + times(238, "or1=1") + " ;");
        taken("must 1=1" + times(198, "and1=1") + "   ;");
    }

    private static void faultBehindTwelveHundred() {
        faultAt(1200, times(1200, " "));
        faultAt(1200, "must 1=1" + times(238, "or1=1") + "or");
        faultAt(0, times(1200, "a"));
        faultAt(1199, times(1190, " ") + "must 1=1;!");
        faultAt(7, "must 1=" + times(1193, "1"));
    }

    private static void formsAreSix() {
        CensusOffice x = new CensusOffice();
        CHECKS.row("10 six forms", new int[] {0, 1, 2, 3, 4, 5}, k -> Checks.form(x, "must 1=1;"));
        Checks.write(x, "must 1=1;");
        CHECKS.refused("10 no seventh", Checks.ROOM, () -> x.form());
        CHECKS.due("10 refused: the tape stays", 9, () -> x.told(12));
        CHECKS.due("39 six forms", 6, () -> x.told(3));
        x.trim(0);
        CHECKS.refused("10 no room for an empty tape either", Checks.ROOM, () -> x.form());
    }

    private static void formEmptiesTheTape() {
        CensusOffice x = new CensusOffice();
        CHECKS.due("10 a FAULT", -1 - 4, () -> Checks.form(x, "ask 5 0 9;"));
        CHECKS.due("10 empty behind a FAULT", 0, () -> x.told(12));
        CHECKS.due("10 a FAULT is no form", 0, () -> x.told(3));
        CHECKS.due("10 a form", 0, () -> Checks.form(x, "ask a 0 9;"));
        CHECKS.due("10 empty behind a form", 0, () -> x.told(12));
        CHECKS.due("10 what is empty ends too soon", -1, () -> x.form());
        CHECKS.due("10 nothing of a FAULT is left", 1, () -> Checks.form(x, "ask a 0 8;"));
        CHECKS.due("11 the first one stays", 9, () -> x.statement(0, 0, 2));
        CHECKS.due("11 the second one", 8, () -> x.statement(1, 0, 2));
    }

    private static void oneToTwentyStatements() {
        faultAt(0, "");
        faultAt(3, " \t\n");
        taken("must 1=1;");
        taken(times(20, "must 1=1;"));
        taken(times(20, "must 1=1;") + " ");
        faultAt(180, times(21, "must 1=1;"));
        faultAt(182, times(20, "must 1=1;") + "  let a 1;");
        faultAt(180, times(20, "must 1=1;") + "x");
        faultAt(180, times(20, "must 1=1;") + "let 5");
    }

    private static String asks(int count) {
        StringBuilder text = new StringBuilder();
        for (int k = 0; k < count; k++) {
            text.append("ask ").append((char) ('a' + k)).append(" 0 9;");
        }
        return text.toString();
    }

    private static void tenAsks() {
        taken(asks(10));
        faultAt(100, asks(11));
        faultAt(101, asks(10) + " ask");
        taken(asks(10) + "let k 1;let l 2;let m 3;let n 4;let o 5;let p 6;let q 7;let r 8;let s 9;let t 10;");
        faultAt(109, asks(10) + "must 1=1;ask k 0 9;");
        taken(asks(9) + "must 1=1;warn 1=1;let x 1;ask k 0 9;");
    }

    private static void eachWithSemicolon() {
        fault("must 1=1^");
        fault("must 1=1 ^must 1=1;");
        fault("must 1=1;must 1=1^");
        fault("ask a 0 9 ^let b 1;");
        fault("must 1=1;^;");
        fault("^;must 1=1;");
    }

    private static void anyByteBetweenStatements() {
        for (int b = 0; b < 256; b++) {
            String text = "must 1=1;" + (char) b + "must 1=1;";
            if (b == 9 || b == 10 || b == 13 || b == 32) {
                taken(text);
            } else {
                faultAt(9, text);
            }
        }
    }

    private static void anyByteInsideExpression() {
        for (int b = 0; b < 256; b++) {
            String text = "must 1=1" + (char) b + ";";
            if (b == 9 || b == 10 || b == 13 || b == 32 || b >= '0' && b <= '9') {
                taken(text);
            } else {
                faultAt(b == '+' || b == '-' || b == ';' ? 9 : 8, text);
            }
        }
    }

    private static void anyByteBetweenNumbers() {
        for (int b = 0; b < 256; b++) {
            String text = "must 1" + (char) b + "1;";
            if (b == '<' || b == '=' || b == '>') {
                taken(text);
            } else if (b == '+' || b == '-' || b >= '0' && b <= '9') {
                faultAt(8, text);
            } else {
                faultAt(b == 9 || b == 10 || b == 13 || b == 32 ? 7 : 6, text);
            }
        }
    }

    private static void blanksBetweenOrNot() {
        taken("ask a 0 9 if 1=1;let b a+1-reg 0 if a>=1 and a<5 or a<>2;must a=b;");
        taken("ask\ta\r0\n9\tif\n1\r=\t1 ;\nlet b a + 1 - reg\n0 if a >=\t1\rand a < 5 or a <>\n2 ; must a = b ;\r");
        taken("ask a0 9if1=1;let b a+1-reg0if a>=1and a<5or a<>2;must a=b;");
        taken("ask a-1-1;");
        fault("ask a 0 9^ifa=1;");
        fault("^aska 0 9;");
        fault("must 1=1and1^;");
        fault("must 1 ^anda=1;");
    }

    private static void tokensAsLongAsMayBe() {
        fault("ask a 0 9;must a ^b=1;");
        fault("ask a 0 9;ask b 0 9;must ^ab=1;");
        fault("must 1=1 ^an d 1=1;");
        fault("^mu st 1=1;");
        taken("must 12=12;");
        fault("must 12=1 ^2;");
        taken("ask a 0 9;ask aa 0 9;must a<aa;");
    }

    private static void relationsOfTwoBytes() {
        String[] relations = {"<", "=", ">"};
        for (String first : relations) {
            taken("must 1" + first + "1;");
            for (String second : relations) {
                String both = first + second;
                if (both.equals("<=") || both.equals("<>") || both.equals(">=")) {
                    taken("must 1" + both + "1;");
                    faultAt(8, "must 1" + first + " " + second + "1;");
                    faultAt(8, "must 1" + both + "=1;");
                } else {
                    faultAt(7, "must 1" + both + "1;");
                }
            }
        }
        fault("must 1<^");
        fault("must 1<=^");
        fault("must 1<>^");
        fault("must 1>=^");
    }

    private static void wordsOfEightLetters() {
        taken("ask abcdefgh 0 9;");
        fault("ask ^abcdefghi 0 9;");
        taken("ask zzzzzzzz 0 9;must zzzzzzzz=1;");
        fault("ask zzzzzzzz 0 9;must ^zzzzzzzzz=1;");
        fault("^mustmustmust 1=1;");
        fault("must 1=1 ^andandand 1=1;");
        taken("ask abcdefgh 0 9;ask abcdefgi 0 9;ask bbcdefgh 0 9;ask abcdefg 0 9;");
        fault("ask abcdefgh 0 9;ask ^abcdefgh 0 9;");
        fault("ask abcdefgh 0 9;must ^abcdefgi=1;");
        fault("ask abcdefgh 0 9;must ^abcdefg=1;");
        fault("ask abcdefgh 0 9;must ^bcdefgh=1;");
    }

    private static void numbersOfSixDigits() {
        taken("ask a 999999 999999;");
        fault("ask a ^1000000 9;");
        fault("ask a 0 ^1000000;");
        fault("ask a 0 ^0000001;");
        taken("ask a 000000 000001;");
        taken("let a 999999 if 999999=-999999;");
        fault("let a ^1000000;");
        fault("let a 1 if -^1000000=1;");
        fault("let a 1 if 1=1+^0000000;");
        fault("let a 1 if ^4294967297=1;");
        fault("let a 1 if ^99999999999999999999=1;");
        taken("let a reg 000005;");
        fault("let a reg ^0000005;");
    }

    private static void keptWordsAreNoNames() {
        for (String word : KEPT) {
            fault("ask ^" + word + " 0 9;");
            fault("let ^" + word + " 1;");
            fault("must 1=1;let a 1+" + (word.equals("reg") ? "reg^;" : "^" + word + ";"));
            fault("must " + (word.equals("reg") ? "reg ^=1;" : "^" + word + "=1;"));
        }
    }

    private static void nearlyKeptWordsAreNames() {
        for (String word : KEPT) {
            taken("ask " + word + "s 0 9;must " + word + "s=1;");
            String less = word.substring(0, word.length() - 1);
            taken("let " + less + " 1;must " + less + "=1;");
        }
    }

    private static void namesToldOnce() {
        fault("ask a 0 9;ask ^a 0 9;");
        fault("ask a 0 9;let ^a 1;");
        fault("let a 1;ask ^a 0 9;");
        fault("let a 1;let ^a 1;");
        fault("let a 1;must 1=1;warn 1=1;let b 1;let ^a ");
        taken("ask a 0 9;let aa 1;ask ab 0 9;let b 1;");
    }

    private static void namesUsedBehind() {
        fault("must ^a=1;ask a 0 9;");
        fault("ask a 0 9 if ^a=1;");
        fault("let a ^a;");
        fault("let a 1 if 1=^a;");
        taken("ask a 0 9;ask b 0 9 if a=1;");
        taken("let a 1;let b a if a=a;must a=b;warn b=a;");
        fault("let a 1;let b a if ^b=a;");
        fault("let a 1;must a=1 or a=1 and a<1+^b;");
    }

    private static void boundsOfAsk() {
        taken("ask a 5 5;");
        fault("ask a 5 ^4;");
        taken("ask a 5 6;");
        taken("ask a -5 -5;");
        fault("ask a -5 ^-6;");
        fault("ask a - 5 ^- 6;");
        taken("ask a -5 -4;");
        taken("ask a 0 -0;");
        taken("ask a -0 0;");
        fault("ask a 0 ^-1;");
        fault("ask a 1 ^0 if ;");
        taken("ask a -999999 999999;");
        fault("ask a 999999 ^-999999;");
        fault("ask a ^+1 2;");
        fault("ask a - ^- 1 2;");
        fault("ask z -9 -9;ask a -^- 1;");
        fault("ask a 1 - ^;");
        fault("ask a 1 ^b;");
        fault("ask a 1 ^reg 5;");
    }

    private static void regOfSix() {
        for (int k = 0; k < 6; k++) {
            taken("let a reg " + k + ";");
        }
        fault("let a reg ^6;");
        fault("let a reg ^10;");
        fault("let a reg ^999999;");
        fault("let a reg ^-1;");
        fault("let a reg ^reg 1;");
        fault("let a 1;let b reg ^a;");
        fault("must reg 5 = reg ^6;");
    }

    private static void minusOfNumbersAlone() {
        taken("let a -1;");
        taken("let a 1--1;let b 1+-1;let c a- -1;");
        fault("let a 1--^-1;");
        fault("let a 1;let b -^a;");
        fault("let a -^reg 1;");
        fault("let a ^+1;");
        fault("let a 1+^;");
        fault("let a 1-^;");
    }

    private static void condOnlyBehindIf() {
        fault("ask a 0 9 ^1=1;");
        fault("let a 1 ^=1;");
        fault("ask a 0 9 if^");
        fault("let a 1 if ^;");
        fault("must 1=1 ^if 1=1;");
        fault("warn ^if 1=1;");
        fault("must ^;");
        fault("warn 1^;");
        fault("must 1=1 and ^or 1=1;");
        fault("must 1=1 or ^or 1=1;");
        fault("must 1=1 and ^;");
        fault("must 1=1^=1;");
        fault("ask a 0 9 if 1=1 ^if 1=1;");
    }

    /** Each beginning of a text: where it is at fault, or -1 where it is a form. */
    private static void endsTooSoon() {
        String text = "ask a 1 2if 1<=2;";
        int[] places = {0, 0, 0, 3, 4, 5, 6, 7, 8, 9, 9, 11, 12, 13, 14, 15, 16, -1};
        for (int length = 0; length < places.length; length++) {
            if (places[length] == -1) {
                taken(text.substring(0, length));
            } else {
                faultAt(places[length], text.substring(0, length));
            }
        }
        String other = "let b-7-reg 5;";
        int[] others = {0, 0, 0, 3, 4, 5, 6, 7, 8, 8, 8, 11, 12, 13, -1};
        for (int length = 0; length < others.length; length++) {
            if (others[length] == -1) {
                taken(other.substring(0, length));
            } else {
                faultAt(others[length], other.substring(0, length));
            }
        }
    }

    // ---- 11: statement

    private static void statementTakesForms() {
        CensusOffice x = new CensusOffice();
        for (int k = 0; k < 6; k++) {
            Checks.form(x, "ask a 0 " + k + ";");
        }
        CHECKS.row("11 forms 0 .. 5", new int[] {0, 1, 2, 3, 4, 5}, k -> x.statement(k, 0, 2));
        CHECKS.refusedFor("11 no such form", Checks.INDEX, k -> x.statement(k, 0, 0), -1, 6, LEAST, MOST);
    }

    private static void statementTakesStatements() {
        CensusOffice x = new CensusOffice();
        Checks.form(x, times(19, "must 1=1;") + "ask a -7 7;");
        Checks.form(x, "ask a 0 1;");
        CHECKS.due("11 the first of twenty", 2, () -> x.statement(0, 0, 0));
        CHECKS.due("11 the last of twenty", -7, () -> x.statement(0, 19, 1));
        CHECKS.refusedFor("11 no such statement of twenty", Checks.INDEX, s -> x.statement(0, s, 0), -1, 20, LEAST, MOST);
        CHECKS.refused("11 no second one of one", Checks.INDEX, () -> x.statement(1, 1, 0));
    }

    private static void statementTakesWhat() {
        CensusOffice x = new CensusOffice();
        Checks.form(x, "ask a -3 8;");
        CHECKS.row("11 what = 0 .. 3", new int[] {0, -3, 8, 1}, what -> x.statement(0, 0, what));
        CHECKS.refusedFor("11 what", Checks.ARGUMENT, what -> x.statement(0, 0, what), -1, 4, LEAST, MOST);
        CHECKS.allRefused("11 an index ahead of what", Checks.INDEX, () -> x.statement(1, 0, 4),
                () -> x.statement(0, 1, 4), () -> x.statement(-1, 0, -1), () -> x.statement(0, -1, -1));
    }

    private static void statementOfEachSort() {
        CensusOffice x = new CensusOffice();
        Checks.form(x, "ask a -999999 999999;let b 5;must a=b;warn a=b;ask c -0 0;");
        int[][] want = {{0, -999999, 999999, 1}, {1, 0, 0, 0}, {2, 0, 0, 0}, {3, 0, 0, 0}, {0, 0, 0, 1}};
        for (int s = 0; s < want.length; s++) {
            int statement = s;
            CHECKS.row("11 statement " + s, want[s], what -> x.statement(0, statement, what));
        }
    }
}
