/** The boundary cases that the document's head 'Terms' names: TOKENS, the three sorts of texts, their FAULTS. */
public final class TermsBoundaryTests {
    private static final int NONE = LateMasters.NONE;
    private static final String TOWN = "clock c 0;master m 0 1 c;meet e 9;";
    private static final String[] WORDS = {"clock", "fast", "slow", "gains", "loses", "master", "meet", "comes", "wait",
        "sets", "stop", "start", "move", "minute", "or", "and", "not", "out", "going", "right", "by", "to", "late",
        "corner", "came", "number"};

    private TermsBoundaryTests() {
    }

    public static void main(String[] args) {
        wordsOfOneToSevenLetters();
        numbersOfOneToThreeDigits();
        signs();
        blanks();
        runsOfLettersAndDigits();
        bytesOfABurgh();
        linesOfABurgh();
        numbersOfAClock();
        partsOfAClock();
        numbersOfAMaster();
        numbersOfAMeet();
        pairsToldOnce();
        waiting();
        wordsThatAreNoNames();
        namesToldOnce();
        sixOfEachSort();
        bytesOfABook();
        linesOfABook();
        numbersOfABook();
        bytesOfASentence();
        numbersOfASentence();
        onesOfASentence();
        onesWithinOneAnother();
        orAndAndNot();
        theFirstFault();
        theLeastFaultOfOneToken();
        tokensThatCannotComeInABurgh();
        tokensThatCannotComeInABook();
        tokensThatCannotComeInASentence();
        theEndOfAText();
        theMostBytesTold();
        tokensOverTheEdge();
        numbersNotAsTold();
        namesNotAsTold();
        oneMoreThanThereMayBe();
        Check.end("TermsBoundaryTests");
    }

    private static void burghFault(String text, int place, int kind) {
        LateMasters x = Check.town("clock p 0;clock q 0;master r 0 1 p;wait 3;");
        Check.due("burgh() of <" + text + ">", Feeder.burgh(x, text), -1 - place);
        Check.due("fault() of <" + text + ">", x.fault(), kind);
        Check.due("count(0) behind <" + text + ">", x.count(0), 2);
        Check.due("count(1) behind <" + text + ">", x.count(1), 1);
        Check.due("count(2) behind <" + text + ">", x.count(2), 0);
        Check.due("count(3) behind <" + text + ">", x.count(3), 3);
        Check.due("count(4) behind <" + text + ">", x.count(4), 0);
    }

    private static void bookFault(String text, int place, int kind) {
        for (int lives = 0; lives < 2; lives++) {
            LateMasters x = Check.town(TOWN);
            Check.due("book(" + lives + ") of <" + text + ">", Feeder.book(x, text, lives), -2 - place);
            Check.due("fault() of <" + text + ">", x.fault(), kind);
            Check.due("now(0) behind <" + text + ">", x.now(0), 0);
            Check.due("undo() behind <" + text + ">", x.undo(), NONE);
            Check.due("count(4) behind <" + text + ">", x.count(4), 0);
        }
    }

    private static void sentenceFault(String text, int place, int kind) {
        LateMasters x = Check.town(TOWN);
        Feeder.sentence(x, "number = 0");
        Check.due("sentence() of <" + text + ">", Feeder.sentence(x, text), -1 - place);
        Check.due("fault() of <" + text + ">", x.fault(), kind);
        Check.due("said(NONE) behind <" + text + ">", x.said(NONE), 1);
        Check.due("count(4) behind <" + text + ">", x.count(4), 0);
    }

    private static LateMasters burghFine(String text, int lines) {
        LateMasters x = new LateMasters();
        Check.due("burgh() of <" + text + ">", Feeder.burgh(x, text), lines);
        Check.due("fault() of <" + text + ">", x.fault(), 0);
        return x;
    }

    private static LateMasters bookFine(String text) {
        LateMasters x = Check.town(TOWN);
        Check.due("book(0) of <" + text + "> has no FAULT", Feeder.book(x, text, 0) >= NONE, true);
        Check.due("fault() of <" + text + ">", x.fault(), 0);
        return x;
    }

    private static LateMasters sentenceFine(String text, int ones) {
        LateMasters x = Check.town(TOWN);
        Check.due("sentence() of <" + text + ">", Feeder.sentence(x, text), ones);
        Check.due("fault() of <" + text + ">", x.fault(), 0);
        return x;
    }

    private static void wordsOfOneToSevenLetters() {
        Check.words("WORDS: small letters, 1 to 7;");
        Check.due("face() of a", Feeder.face(burghFine("clock a 0;", 1), 0), "a shows 0.00");
        Check.due("face() of abcdefg", Feeder.face(burghFine("clock abcdefg 0;", 1), 0), "abcdefg shows 0.00");
        Check.due("face() of zyxwvut", Feeder.face(burghFine("clock zyxwvut 0;", 1), 0), "zyxwvut shows 0.00");
        burghFault("clock abcdefgh 0;", 6, 1);
        burghFault("clock abcdefghijklmnopqrstuvwxyz 0;", 6, 1);
        for (char sign : new char[] {'A', 'Z', '`', '{', '@', '[', (char) 224, (char) 225, (char) 255}) {
            burghFault("clock " + sign + " 0;", 6, 1);
            burghFault(sign + "clock c 0;", 0, 1);
            burghFault("clock c" + sign + " 0;", 7, 1);
        }
        // Names of one sort that differ in one letter alone, the first or the last.
        burghFine("clock abcdefg 0;clock abcdefh 0;clock bbcdefg 0;clock abcdef 0;clock bcdefg 0;clock g 0;", 6);
    }

    private static void numbersOfOneToThreeDigits() {
        Check.words("NUMBERS: 1 to 3 digits;");
        Check.due("clock(0, 0) of 7", burghFine("clock c 7;", 1).clock(0, 0), 7);
        Check.due("clock(0, 0) of 07", burghFine("clock c 07;", 1).clock(0, 0), 7);
        Check.due("clock(0, 0) of 007", burghFine("clock c 007;", 1).clock(0, 0), 7);
        burghFault("clock c 0007;", 8, 1);
        burghFault("meet e 0999;", 7, 1);
        burghFault("meet e 99999999999999999999;", 7, 1);
        burghFault("meet e 4294967296;", 7, 1);
        for (char sign : new char[] {'/', ':', '-', '+', '.', ','}) {
            burghFault("meet e " + sign + ";", 7, 1);
            burghFault("meet e " + sign + "5;", 7, 1);
            burghFault("meet e 5" + sign + ";", 8, 1);
        }
    }

    private static void signs() {
        Check.words("; < = > ( ) .");
        sentenceFine("late<1", 1);
        sentenceFine("late=1", 1);
        sentenceFine("late>1", 1);
        sentenceFine("(out)", 2);
        burghFine("wait 1;", 1);
        for (char sign : new char[] {'?', '!', '&', '\'', '*', '[', ']', '.'}) {
            sentenceFault("late " + sign + " 1", 5, 1);
            sentenceFault(sign + "out)", 0, 1);
            sentenceFault("(out" + sign, 4, 1);
            burghFault("wait 1" + sign, 6, 1);
        }
    }

    private static void blanks() {
        Check.words("with blanks (32, 10) between them or not");
        sentenceFine("not(late<1)and(out)or(right)", 7);
        sentenceFine(" \n not\n(\nlate \n < 1 ) and ( out ) or ( right ) \n\n ", 7);
        burghFine("\n\nclock\nc\n0\n;\n", 1);
        burghFine("  clock  c  0  ;  wait  1  ;  ", 2);
        burghFine("clock c 0;wait 1;", 2);
        int[] others = {0, 1, 9, 11, 12, 13, 31, 33, 127, 128, 138, 160};
        for (int other : others) {
            burghFault("clock" + (char) other + "c 0;", 5, 1);
            burghFault((char) other + "clock c 0;", 0, 1);
            burghFault("clock c 0;" + (char) other, 10, 1);
            bookFault("minute 1;" + (char) other, 9, 1);
            sentenceFault("out" + (char) other, 3, 1);
        }
    }

    private static void runsOfLettersAndDigits() {
        Check.words("(A WORD, NUMBER goes on as long as small letters and digits do; what is not as told is no TOKEN.)");
        burghFault("clock c1 0;", 6, 1);
        burghFault("clock 1c 0;", 6, 1);
        burghFault("clock c 0a;", 8, 1);
        burghFault("clock c 0fast 1;", 8, 1);
        burghFault("clock c 0 fast1;", 10, 1);
        burghFault("clockc 0;", 0, 1);
        burghFault("wait5;", 0, 1);
        burghFault("wait 1wait 2;", 5, 1);
        bookFault("minute1;", 0, 1);
        bookFault("msets c;", 0, 3);
        sentenceFault("late1", 0, 1);
        sentenceFault("late<1and out", 5, 1);
        sentenceFault("notout", 0, 1);
        sentenceFault("outor out", 0, 1);
    }

    private static String wide(String text, int bytes) {
        return text + " ".repeat(bytes - text.length());
    }

    private static void bytesOfABurgh() {
        Check.words("A BURGH is a text of at most 900 bytes");
        Check.due("count(0) of 899 bytes", burghFine(wide("clock c 0;", 899), 1).count(0), 1);
        Check.due("count(0) of 900 bytes", burghFine(wide("clock c 0;", 900), 1).count(0), 1);
        Check.due("count(3) of 900 bytes", burghFine(" ".repeat(893) + "wait 7;", 1).count(3), 7);
        burghFault(wide("clock c 0;", 901), 900, 1);
        burghFault(wide("clock c 0;", 940), 900, 1);
        burghFault(" ".repeat(894) + "wait 7;", 900, 1);
        burghFine(" ".repeat(900), 0);
        burghFault(" ".repeat(901), 900, 1);
        // as many TOKENS as bytes
        for (int bytes : new int[] {899, 900, 901, 940}) {
            burghFault(";".repeat(bytes), 0, 1);
            burghFault("wait 5;" + ";".repeat(bytes - 7), 7, 1);
        }
    }

    private static void linesOfABurgh() {
        Check.words("bytes: { LINE ; }. LINE:");
        burghFine("", 0);
        burghFine(" ", 0);
        burghFine("wait 1;", 1);
        burghFault("wait 1", 6, 1);
        burghFault(";", 0, 1);
        burghFault("wait 1;;", 7, 1);
        burghFault("wait 1 clock c 0;", 7, 1);
        Check.due("burgh() of an empty tape", new LateMasters().burgh(), 0);
        LateMasters x = Check.town(TOWN);
        Check.due("burgh() of an empty tape behind another", x.burgh(), 0);
        Check.due("count(0) of it", x.count(0), 0);
        Check.due("count(1) of it", x.count(1), 0);
        Check.due("count(2) of it", x.count(2), 0);
    }

    /** The least and the greatest NUMBER are fine, those beyond are not, at the NUMBER's place. */
    private static void burghNumber(String ahead, String behind, int least, int greatest) {
        int lines = (int) (ahead + behind).chars().filter(sign -> sign == ';').count();
        burghFine(ahead + least + behind, lines);
        burghFine(ahead + greatest + behind, lines);
        if (least > 0) {
            burghFault(ahead + (least - 1) + behind, ahead.length(), 2);
            burghFault(ahead + "000" + behind, ahead.length(), 2);
        }
        if (greatest < 999) {
            burghFault(ahead + (greatest + 1) + behind, ahead.length(), 2);
            burghFault(ahead + 999 + behind, ahead.length(), 2);
        }
        burghFault(ahead + 1000 + behind, ahead.length(), 1);
    }

    private static void numbersOfAClock() {
        Check.words("(0 to 30; N minutes ahead or behind at MINUTE 0: 1 to 99; 0 without; M minutes in 60: 1 to 9; 0 without)");
        burghNumber("clock c ", ";", 0, 30);
        burghNumber("clock c 0 fast ", ";", 1, 99);
        burghNumber("clock c 0 slow ", ";", 1, 99);
        burghNumber("clock c 0 fast ", " loses 9;", 1, 99);
        burghNumber("clock c 0 gains ", ";", 1, 9);
        burghNumber("clock c 0 loses ", ";", 1, 9);
        burghNumber("clock c 0 slow 99 gains ", ";", 1, 9);
        LateMasters x = Check.town("clock a 0;clock b 30 fast 1 gains 1;clock c 1 slow 1 loses 1;"
                + "clock d 29 fast 99 loses 9;clock e 5 slow 99 gains 9;clock f 6 gains 9;");
        int[] corner = {0, 30, 1, 29, 5, 6};
        int[] ahead = {0, 1, -1, 99, -99, 0};
        int[] gain = {0, 1, -1, -9, 9, 9};
        for (int c = 0; c < 6; c++) {
            Check.due("clock(" + c + ", 0)", x.clock(c, 0), corner[c]);
            Check.due("clock(" + c + ", 1)", x.clock(c, 1), gain[c]);
            Check.due("wrong(" + c + ")", x.wrong(c), ahead[c]);
        }
    }

    private static void partsOfAClock() {
        Check.words("[ ( 'fast' | 'slow' ) N ] [ ( 'gains' | 'loses' ) M ]");
        burghFine("clock c 0;", 1);
        burghFine("clock c 0 fast 1;", 1);
        burghFine("clock c 0 loses 1;", 1);
        burghFine("clock c 0 slow 1 gains 1;", 1);
        burghFault("clock c 0 gains 1 fast 1;", 18, 1);
        burghFault("clock c 0 fast 1 slow 1;", 17, 1);
        burghFault("clock c 0 fast 1 fast 1;", 17, 1);
        burghFault("clock c 0 gains 1 loses 1;", 18, 1);
        burghFault("clock c 0 fast gains 1;", 15, 1);
        burghFault("clock c fast 1;", 8, 1);
    }

    private static void numbersOfAMaster() {
        Check.words("'master' NAME CORNER LATE CLOCK (0 to 30; 1 to 60; by which he goes)");
        burghNumber("clock c 0;master m ", " 1 c;", 0, 30);
        burghNumber("clock c 0;master m 0 ", " c;", 1, 60);
        LateMasters x = Check.town("clock a 0;clock b 0;master m 0 60 b;master n 30 1 a;");
        Check.due("master(0, 0)", x.master(0, 0), 0);
        Check.due("master(0, 1)", x.master(0, 1), 60);
        Check.due("master(0, 2)", x.master(0, 2), 1);
        Check.due("master(1, 0)", x.master(1, 0), 30);
        Check.due("master(1, 1)", x.master(1, 1), 1);
        Check.due("master(1, 2)", x.master(1, 2), 0);
        // of two NUMBERS that are not as told the first
        burghFault("clock c 0;master m 31 61 c;", 19, 2);
    }

    private static void numbersOfAMeet() {
        Check.words("'meet' NAME DUE (0 to 999)");
        burghNumber("meet e ", ";", 0, 999);
        Check.due("meet(0, 0) of 0", Check.town("meet e 0;").meet(0, 0), 0);
        Check.due("meet(0, 0) of 999", Check.town("meet e 999;").meet(0, 0), 999);
    }

    private static void pairsToldOnce() {
        Check.words("'comes' MASTER MEET (each two once)");
        StringBuilder text = new StringBuilder("clock c 0;");
        for (char m = 'h'; m <= 'm'; m++) {
            text.append("master ").append(m).append(" 0 1 c;");
        }
        for (char e = 'u'; e <= 'z'; e++) {
            text.append("meet ").append(e).append(" 9;");
        }
        for (char m = 'h'; m <= 'm'; m++) {
            for (char e = 'u'; e <= 'z'; e++) {
                text.append("comes ").append(m).append(' ').append(e).append(';');
            }
        }
        LateMasters x = burghFine(text.toString(), 49);
        for (int i = 0; i < 6; i++) {
            Check.due("master(" + i + ", 4)", x.master(i, 4), 63);
            Check.due("meet(" + i + ", 1)", x.meet(i, 1), 63);
        }
        burghFault(text + "comes h u;", text.length() + 8, 3);
        burghFault(text + "comes m z;", text.length() + 8, 3);
        burghFault(text + "comes h z;", text.length() + 8, 3);
        burghFault(TOWN + "comes m e;comes m e;", TOWN.length() + 18, 3);
        burghFault(TOWN + "comes m e;wait 5;comes m\ne;", TOWN.length() + 25, 3);
    }

    private static void waiting() {
        Check.words("'wait' N (0 to 99; once; 15 without)");
        burghNumber("wait ", ";", 0, 99);
        Check.due("count(3) of wait 0", Check.town("wait 0;").count(3), 0);
        Check.due("count(3) of wait 99", Check.town("wait 99;").count(3), 99);
        Check.due("count(3) without", Check.town(TOWN).count(3), 15);
        LateMasters x = Check.town("wait 99;");
        Feeder.burgh(x, TOWN);
        Check.due("count(3) without, behind another BURGH", x.count(3), 15);
        burghFault("wait 1;wait 1;", 7, 3);
        burghFault("wait 15;clock c 0; wait 100;", 19, 3);
    }

    private static void wordsThatAreNoNames() {
        Check.words("NAME: a WORD, none of those told here, in a BOOK or a SENTENCE");
        Check.due("WORDS told", WORDS.length, 26);
        for (String word : WORDS) {
            burghFault("clock " + word + " 0;", 6, 1);
            burghFault("clock c 0;master " + word + " 0 1 c;", 17, 1);
            burghFault("meet " + word + " 0;", 5, 1);
            burghFine("clock " + word.substring(1) + "q 0;", 1);
        }
        burghFine("clock clocks 0;meet meets 0;master masters 0 1 clocks;comes masters meets;", 4);
        burghFine("clock cloc 0;clock ou 0;clock o 0;clock t 0;clock b 0;clock r 0;", 6);
        burghFine("clock shows 0;clock stopped 0;clock set 0;clock minutes 0;clock stops 0;clock none 0;", 6);
    }

    private static void namesToldOnce() {
        Check.words("NAME: a WORD, none of those told here, in a BOOK or a SENTENCE; told once.");
        String[] ahead = {"clock x 0;", "clock c 0;master x 0 1 c;", "meet x 0;"};
        for (String first : ahead) {
            burghFault(first + "clock x 0;", first.length() + 6, 3);
            burghFault(first + "meet x 0;", first.length() + 5, 3);
            burghFault(first + "clock k 0;master x 0 1 k;", first.length() + 17, 3);
            burghFine(first + "clock y 0;", (int) (first.chars().filter(sign -> sign == ';').count() + 1));
        }
        // A NAME of a BURGH that is no more, or that had a FAULT, is free.
        LateMasters x = Check.town("clock x 0;");
        Check.due("burgh() with a NAME of the one ahead", Feeder.burgh(x, "meet x 0;"), 1);
        Check.due("burgh() with a FAULT", Feeder.burgh(x, "clock y 0;clock z 31;"), -1 - 18);
        Check.due("burgh() with a NAME of that", Feeder.burgh(x, "meet y 0;clock z 0;"), 2);
    }

    private static String clocks(int n) {
        StringBuilder text = new StringBuilder();
        for (int i = 0; i < n; i++) {
            text.append("clock c").append((char) ('a' + i)).append(' ').append(i).append(';');
        }
        return text.toString();
    }

    private static String masters(int n) {
        StringBuilder text = new StringBuilder();
        for (int i = 0; i < n; i++) {
            text.append("master m").append((char) ('a' + i)).append(' ').append(i).append(" 1 ca;");
        }
        return text.toString();
    }

    private static String meets(int n) {
        StringBuilder text = new StringBuilder();
        for (int i = 0; i < n; i++) {
            text.append("meet e").append((char) ('a' + i)).append(' ').append(i).append(';');
        }
        return text.toString();
    }

    private static void sixOfEachSort() {
        Check.words("6 CLOCKS, 6 MASTERS, 6 MEETS at most, numbered from 0 each.");
        String six = clocks(6) + masters(6) + meets(6);
        LateMasters x = burghFine(six, 18);
        for (int i = 0; i < 6; i++) {
            Check.due("clock(" + i + ", 0)", x.clock(i, 0), i);
            Check.due("master(" + i + ", 0)", x.master(i, 0), i);
            Check.due("meet(" + i + ", 0)", x.meet(i, 0), i);
        }
        Check.due("clock(6, 0)", x.clock(6, 0), NONE);
        Check.dueThrow("master(6, 0)", () -> x.master(6, 0));
        Check.due("meet(6, 0)", x.meet(6, 0), NONE);
        burghFault(six + "clock x 0;", six.length(), 4);
        burghFault(six + "master x 0 1 ca;", six.length(), 4);
        burghFault(six + "meet x 0;", six.length(), 4);
        burghFault(clocks(7), clocks(6).length(), 4);
        burghFault(meets(7), meets(6).length(), 4);
        burghFault(clocks(1) + masters(7), clocks(1).length() + masters(6).length(), 4);
    }

    private static void bytesOfABook() {
        Check.words("A BOOK is a text of at most 400 bytes");
        Check.due("told(2) of 399 bytes", bookFine(wide("minute 3;", 399)).told(2), 3);
        Check.due("told(2) of 400 bytes", bookFine(wide("minute 3;", 400)).told(2), 3);
        Check.due("told(2) of 400 bytes", bookFine(" ".repeat(391) + "minute 3;").told(2), 3);
        bookFault(wide("minute 3;", 401), 400, 1);
        bookFault(wide("minute 3;", 940), 400, 1);
        bookFault(" ".repeat(392) + "minute 3;", 400, 1);
        bookFault(" ".repeat(401), 400, 1);
        Check.due("told(1) of blanks", bookFine(" ".repeat(400)).told(1), 0);
        bookFault("<".repeat(400), 0, 1);
        bookFault("<".repeat(940), 0, 1);
    }

    private static void linesOfABook() {
        Check.words("bytes: { LINE ; }, 40 at most:");
        Check.due("told(1) of no LINES", bookFine("").told(1), 0);
        Check.due("told(1) of 1", bookFine("minute 1;").told(1), 1);
        Check.due("told(1) of 39", bookFine("minute 1;".repeat(39)).told(1), 39);
        Check.due("told(1) of 40", bookFine("minute 1;".repeat(40)).told(1), 40);
        bookFault("minute 1;".repeat(41), 360, 4);
        bookFault("minute 1;".repeat(44), 360, 4);
        bookFault("minute 1;".repeat(40) + "m sets c;", 360, 4);
        bookFault("minute 1;".repeat(40) + " stop", 361, 4);
        bookFault("minute 1", 8, 1);
        bookFault(";", 0, 1);
        bookFault("minute 1;;", 9, 1);
        Check.due("book(0) of 40, the last WRONG", Feeder.book(Check.town(TOWN), "minute 1;".repeat(39) + "start c;", 0), 39);
    }

    private static void numbersOfABook() {
        Check.words("'move' MEET N (0 to 999) | 'minute' N (1 to 999).");
        bookFine("move e 0;");
        bookFine("move e 999;");
        bookFault("move e 1000;", 7, 1);
        Check.due("told(0) of move e 0", bookFine("move e 0;").told(0), 32);
        Check.due("told(0) of move e 1", bookFine("move e 1;").told(0), 0);
        Check.due("told(2) of minute 1", bookFine("minute 1;").told(2), 1);
        Check.due("told(2) of minute 999", bookFine("minute 999;").told(2), 999);
        bookFault("minute 0;", 7, 2);
        bookFault("minute 000;", 7, 2);
        bookFault("minute 1000;", 7, 1);
    }

    private static void bytesOfASentence() {
        Check.words("A SENTENCE is a text of at most 200 bytes");
        sentenceFine(wide("out", 199), 1);
        sentenceFine(wide("out", 200), 1);
        sentenceFine(" ".repeat(195) + "right", 1);
        sentenceFault(wide("out", 201), 200, 1);
        sentenceFault(wide("out", 940), 200, 1);
        sentenceFault(" ".repeat(196) + "right", 200, 1);
        sentenceFault(" ".repeat(200), 200, 1);
        sentenceFault("", 0, 1);
        sentenceFault(")".repeat(200), 0, 1);
        sentenceFault(")".repeat(940), 0, 1);
    }

    private static void numbersOfASentence() {
        Check.words("( 'late' | 'corner' | 'came' | 'number' ) SIGN NUMBER");
        for (String word : new String[] {"late", "corner", "came", "number"}) {
            Check.due("said(NONE) of " + word + " > 999", sentenceFine(word + " > 999", 1).said(NONE), 0);
            Check.due("said(NONE) of " + word + " < 999", sentenceFine(word + " < 999", 1).said(NONE), 1);
            Check.due("said(NONE) of " + word + " < 0", sentenceFine(word + " < 0", 1).said(NONE), 0);
            sentenceFault(word + " < 1000", word.length() + 3, 1);
            sentenceFault(word + " < < 1", word.length() + 3, 1);
            sentenceFault(word + " 1", word.length() + 1, 1);
        }
        Check.due("said(NONE) of late = 1", sentenceFine("late = 1", 1).said(NONE), 1);
        Check.due("said(NONE) of late < 1", sentenceFine("late < 1", 1).said(NONE), 0);
        Check.due("said(NONE) of late < 2", sentenceFine("late < 2", 1).said(NONE), 1);
        Check.due("said(NONE) of late > 1", sentenceFine("late > 1", 1).said(NONE), 0);
        Check.due("said(NONE) of late > 0", sentenceFine("late > 0", 1).said(NONE), 1);
        Check.due("said(NONE) of late = 0", sentenceFine("late = 0", 1).said(NONE), 0);
        Check.due("said(NONE) of late = 001", sentenceFine("late = 001", 1).said(NONE), 1);
    }

    private static void onesOfASentence() {
        Check.words("20 ONES, 8 within one another.");
        sentenceFine("out" + " or out".repeat(18), 19);
        sentenceFine("out" + " or out".repeat(19), 20);
        sentenceFine("out" + " and out".repeat(19), 20);
        sentenceFault("out" + " or out".repeat(20), 3 + 19 * 7 + 4, 4);
        sentenceFault("out" + " and out".repeat(20), 3 + 19 * 8 + 5, 4);
        // a bracket and a 'not' is a ONE each
        sentenceFine("(out)" + "or(out)".repeat(9), 20);
        sentenceFault("(out)" + "or(out)".repeat(9) + "or out", 5 + 63 + 3, 4);
        sentenceFault("(out)" + "or(out)".repeat(9) + "or(out)", 5 + 63 + 2, 4);
        sentenceFault("out or" + "(out)or".repeat(9) + "(out)", 6 + 63 + 1, 4);
        sentenceFine("not out" + " or not out".repeat(9), 20);
        sentenceFault("not out" + " or not out".repeat(9) + " or not out", 7 + 99 + 4, 4);
        sentenceFault("out" + " or not out".repeat(9) + " or not out", 3 + 99 + 8, 4);
        // each text has its own twenty
        LateMasters x = sentenceFine("out" + " or out".repeat(19), 20);
        Check.due("a second one of 20", Feeder.sentence(x, "out" + " or out".repeat(19)), 20);
        // twenty held at once, each but the last waiting for its 'or'
        Check.due("said(NONE) of 20", sentenceFine("number = 0" + " or out".repeat(19), 20).said(NONE), 1);
        Check.due("said(NONE) of 20", sentenceFine("out" + " or out".repeat(18) + " or number=0", 20).said(NONE), 1);
    }

    private static void onesWithinOneAnother() {
        Check.words("8 within one another. It is said of MASTERS.");
        sentenceFine("not ".repeat(6) + "out", 7);
        Check.due("said(NONE) of 7 nots", sentenceFine("not ".repeat(7) + "out", 8).said(NONE), 1);
        sentenceFault("not ".repeat(8) + "out", 32, 4);
        sentenceFault("not ".repeat(9) + "out", 32, 4);
        sentenceFine("(".repeat(7) + "out" + ")".repeat(7), 8);
        sentenceFault("(".repeat(8) + "out" + ")".repeat(8), 8, 4);
        sentenceFine("not(".repeat(3) + "not out" + ")".repeat(3), 8);
        sentenceFault("not(".repeat(4) + "out" + ")".repeat(4), 16, 4);
        // beside one another they are not within
        sentenceFine("(".repeat(7) + "out or right and going" + ")".repeat(7) + "or out", 11);
        sentenceFine("(".repeat(7) + "out" + ")".repeat(7) + "or" + "(".repeat(7) + "out" + ")".repeat(7), 16);
        sentenceFault("(".repeat(7) + "out or not out" + ")".repeat(7), 18, 4);
        sentenceFault("(".repeat(7) + "out and(out)" + ")".repeat(7), 15, 4);
        sentenceFine("(".repeat(6) + "out or not out" + ")".repeat(6), 9);
    }

    private static void orAndAndNot() {
        Check.words("COND: ALL { 'or' ALL }. ALL: ONE { 'and' ONE }.");
        // 'and' binds more than 'or', 'not' takes one ONE alone
        Check.due("1 or 0 and 0", sentenceFine("number=0 or out and out", 3).said(NONE), 1);
        Check.due("0 and 0 or 1", sentenceFine("out and out or number=0", 3).said(NONE), 1);
        Check.due("(1 or 0) and 0", sentenceFine("(number=0 or out)and out", 4).said(NONE), 0);
        Check.due("not 0 and 0", sentenceFine("not out and out", 3).said(NONE), 0);
        Check.due("not (0 and 0)", sentenceFine("not(out and out)", 4).said(NONE), 1);
        Check.due("not 1 or 1", sentenceFine("not number=0 or number=0", 3).said(NONE), 1);
        Check.due("not not 1", sentenceFine("not not number=0", 3).said(NONE), 1);
        Check.due("1 and 1 and 0", sentenceFine("number=0 and number=0 and out", 3).said(NONE), 0);
        Check.due("0 or 0 or 1", sentenceFine("out or out or number=0", 3).said(NONE), 1);
    }

    private static void theFirstFault() {
        Check.words("FAULTS, the first along the text");
        burghFault("clock c 31;clock !", 8, 2);
        burghFault("clock c 0;clock c 99999;", 16, 3);
        burghFault(clocks(7) + "!", clocks(6).length(), 4);
        burghFault("wait 5;wait 1000", 7, 3);
        burghFault("clock ! 31;", 6, 1);
        bookFault("minute 1;".repeat(41) + "!", 360, 4);
        bookFault("stop x;minute 0;", 5, 3);
        bookFault("minute 0;stop x;", 7, 2);
        sentenceFault("by x or !", 3, 3);
        sentenceFault("not ".repeat(9) + "!", 32, 4);
    }

    private static void theLeastFaultOfOneToken() {
        Check.words("of one TOKEN the least");
        String forty = "minute 1;".repeat(40);
        bookFault(forty + "x sets c;", 360, 3);
        bookFault(forty + "c sets c;", 360, 3);
        bookFault(forty + "e", 360, 3);
        bookFault(forty + "clock;", 360, 1);
        bookFault(forty + "sets", 360, 1);
        bookFault(forty + "7", 360, 1);
        bookFault(forty + "!", 360, 1);
        bookFault(forty + ";", 360, 1);
        bookFault(forty + "m", 360, 4);
        String twenty = "out" + " or out".repeat(19) + " or ";
        sentenceFault(twenty + "x", twenty.length(), 1);
        sentenceFault(twenty + "5", twenty.length(), 1);
        sentenceFault(twenty + "or", twenty.length(), 1);
        sentenceFault(twenty + ")", twenty.length(), 1);
        sentenceFault(twenty, twenty.length(), 1);
        sentenceFault(twenty + "by", twenty.length(), 4);
        String eight = "not ".repeat(8);
        sentenceFault(eight + "x", eight.length(), 1);
        sentenceFault(eight + ")", eight.length(), 1);
        sentenceFault(eight, eight.length(), 1);
        sentenceFault(eight + "late", eight.length(), 4);
        sentenceFault(eight + "(", eight.length(), 4);
    }

    private interface FaultCheck {
        void due(String text, int place, int kind);
    }

    /** Each TOKEN of a text is spoilt in all ways in which it can't come there; it ends behind each but the last. */
    private static void spoil(FaultCheck check, String ahead, String text, String never) {
        String[] tokens = text.split(" ");
        StringBuilder before = new StringBuilder(ahead);
        for (int i = 0; i < tokens.length; i++) {
            int place = before.length();
            StringBuilder behind = new StringBuilder(" ");
            for (int k = i + 1; k < tokens.length; k++) {
                behind.append(tokens[k]).append(' ');
            }
            for (String other : (never + " ! abcdefgh 1234 1a").split(" ")) {
                check.due(before + other + behind, place, 1);
            }
            boolean isNumber = Character.isDigit(tokens[i].charAt(0));
            boolean isName = tokens[i].length() == 1 && Character.isLetter(tokens[i].charAt(0));
            if (!isNumber) {
                check.due(before + "5" + behind, place, 1);
            }
            if (!isName && (i > 0 || check != BOOK)) {
                check.due(before + "x" + behind, place, 1);
            }
            if (i > 0) {
                check.due(before.toString(), place, 1);
                check.due(before + "\n  ", place + 3, 1);
            }
            before.append(tokens[i]).append(' ');
        }
    }

    private static final FaultCheck BURGH = TermsBoundaryTests::burghFault;
    private static final FaultCheck BOOK = TermsBoundaryTests::bookFault;
    private static final FaultCheck SENTENCE = TermsBoundaryTests::sentenceFault;

    private static void tokensThatCannotComeInABurgh() {
        Check.words("1 no TOKEN, or one that can't come (at it;");
        String never = "( ) < = > minute sets stop start move or and not out going right by to late corner came number";
        spoil(BURGH, "", "clock c 0 ;", never);
        spoil(BURGH, "", "clock c 0 fast 1 gains 1 ;", "( ) < = > minute sets stop or and not out number");
        spoil(BURGH, "", "clock c 0 slow 1 loses 1 ;", "( ) < = > move start late corner came by to");
        spoil(BURGH, "clock c 0;", "master n 0 1 c ;", "( ) < = > minute sets or not fast slow gains loses");
        spoil(BURGH, "", "meet f 0 ;", "( ) < = > minute sets or not fast slow gains loses");
        spoil(BURGH, TOWN, "comes m e ;", "( ) < = > minute sets or not fast slow gains loses");
        spoil(BURGH, "", "wait 0 ;", "( ) < = > minute sets or not fast slow gains loses");
        for (String word : WORDS) {
            boolean begins = word.equals("clock") || word.equals("master") || word.equals("meet")
                    || word.equals("comes") || word.equals("wait");
            burghFault(TOWN + word, TOWN.length() + (begins ? word.length() : 0), 1);
        }
    }

    private static void tokensThatCannotComeInABook() {
        Check.words("1 no TOKEN, or one that can't come (at it;");
        String never = "( ) < = > clock master meet comes wait fast gains or and not out number";
        spoil(BOOK, "", "m sets c ;", never);
        spoil(BOOK, "", "stop c ;", never + " sets");
        spoil(BOOK, "", "start c ;", never + " sets");
        spoil(BOOK, "", "move e 5 ;", never + " sets");
        spoil(BOOK, "", "minute 5 ;", never + " sets");
        for (String word : WORDS) {
            boolean begins = word.equals("stop") || word.equals("start") || word.equals("move") || word.equals("minute");
            bookFault(word, begins ? word.length() : 0, 1);
            if (!word.equals("sets")) {
                bookFault("m " + word + " c;", 2, 1);
            }
            bookFault("m sets " + word + ";", 7, 1);
            bookFault("stop " + word + ";", 5, 1);
            bookFault("move " + word + " 5;", 5, 1);
        }
    }

    private static void tokensThatCannotComeInASentence() {
        Check.words("1 no TOKEN, or one that can't come (at it;");
        String never = "; clock master meet comes wait fast gains sets stop move minute";
        spoil(SENTENCE, "", "( out )", never);
        spoil(SENTENCE, "", "( not by c )", never);
        spoil(SENTENCE, "", "( to e and going )", never);
        spoil(SENTENCE, "", "( late < 5 )", never);
        spoil(SENTENCE, "", "( corner = 5 or right )", never);
        spoil(SENTENCE, "", "( number > 5 )", never);
        spoil(SENTENCE, "", "( came > 5 )", never);
        for (String word : WORDS) {
            boolean joins = word.equals("or") || word.equals("and");
            sentenceFault("out " + word, 4 + (joins ? word.length() : 0), 1);
            sentenceFault("by " + word, 3, 1);
            sentenceFault("to " + word, 3, 1);
            sentenceFault("late " + word + " 5", 5, 1);
        }
        sentenceFault("out )", 4, 1);
        sentenceFault(")", 0, 1);
        sentenceFault("()", 1, 1);
        sentenceFault("(out))", 5, 1);
        sentenceFault("out (out)", 4, 1);
        sentenceFault("< 5", 0, 1);
        sentenceFault("m", 0, 1);
    }

    private static void theEndOfAText() {
        Check.words("the end: how many bytes there are");
        burghFault("clock", 5, 1);
        burghFault("clock   ", 8, 1);
        burghFault("wait 5\n\n\n", 9, 1);
        burghFault("clock c 0;master", 16, 1);
        burghFault(" ".repeat(890) + "wait 5    ", 900, 1);
        bookFault("stop", 4, 1);
        bookFault("minute 1;stop c ", 16, 1);
        bookFault(" ".repeat(392) + "minute 1", 400, 1);
        sentenceFault("", 0, 1);
        sentenceFault("   ", 3, 1);
        sentenceFault("out or", 6, 1);
        sentenceFault("(out ", 5, 1);
        sentenceFault(" ".repeat(196) + "(out", 200, 1);
        LateMasters x = new LateMasters();
        Check.due("sentence() of an empty tape", x.sentence(), -1);
        Check.due("fault() of an empty tape", x.fault(), 1);
    }

    private static void theMostBytesTold() {
        Check.words("the most bytes told, if there are more and no FAULT is ahead");
        burghFault(wide("clock c 0", 901), 900, 1);
        burghFault(wide("clock c 0;", 901), 900, 1);
        burghFault(wide("clock c 31;", 901), 8, 2);
        burghFault(wide("clock c 0;clock c", 940), 16, 3);
        burghFault(wide(clocks(7), 940), clocks(6).length(), 4);
        burghFault(" ".repeat(899) + "!", 899, 1);
        burghFault(" ".repeat(899) + "! ", 899, 1);
        burghFault(" ".repeat(900) + "!", 900, 1);
        burghFault(" ".repeat(900) + "wait 0", 900, 1);
        burghFault(wide("wait 0;", 900) + "wait 0;", 900, 1);
        bookFault(wide("minute 1", 401), 400, 1);
        bookFault(wide("minute 0;", 401), 7, 2);
        bookFault(" ".repeat(399) + "! ", 399, 1);
        bookFault(" ".repeat(400) + "x", 400, 1);
        bookFault(wide("minute 1;".repeat(40), 400) + "minute 1;", 400, 1);
        bookFault(wide("minute 1;".repeat(40), 399) + "minute 1;", 399, 4);
        sentenceFault(wide("(out", 201), 200, 1);
        sentenceFault(wide("out out", 201), 4, 1);
        sentenceFault(wide("by x", 201), 3, 3);
        sentenceFault(" ".repeat(199) + "! ", 199, 1);
        sentenceFault(wide("out", 200) + ")", 200, 1);
    }

    private static void tokensOverTheEdge() {
        Check.words("TOKENS that begin ahead of it are read whole");
        burghFault(" ".repeat(899) + "wait 0;", 900, 1);
        burghFault(" ".repeat(899) + "waits 0;", 899, 1);
        burghFault(" ".repeat(899) + "wait0;", 899, 1);
        burghFault(" ".repeat(900) + "waits 0;", 900, 1);
        burghFault(wide("clock c", 899) + "30;", 900, 1);
        burghFault(wide("clock c", 899) + "31;", 899, 2);
        burghFault(wide("clock c", 899) + "0000;", 899, 1);
        burghFault(wide("clock c 0;clock", 899) + "cc 0;", 900, 1);
        burghFault(wide("clock cc 0;clock", 899) + "cc 0;", 899, 3);
        burghFault(wide("clock c 0;clock", 899) + "abcdefgh 0;", 899, 1);
        burghFault(wide("clock c 0;clock", 899) + "abcdefg 0;", 900, 1);
        bookFault(" ".repeat(399) + "minute 1;", 400, 1);
        bookFault(wide("minute", 399) + "12;", 400, 1);
        bookFault(wide("minute", 399) + "00;", 399, 2);
        bookFault(wide("stop", 399) + "cc;", 399, 3);
        bookFault(wide("minute 1;".repeat(40), 399) + "xx sets c", 399, 3);
        sentenceFault(" ".repeat(199) + "right", 200, 1);
        sentenceFault(" ".repeat(199) + "rights", 199, 1);
        sentenceFault(wide("late <", 199) + "999", 200, 1);
        sentenceFault(wide("late <", 199) + "9999", 199, 1);
        sentenceFault(wide("by", 199) + "cc", 199, 3);
    }

    private static void numbersNotAsTold() {
        Check.words("2 a NUMBER that is not as told (at it)");
        burghFault("clock c   31;", 10, 2);
        burghFault("clock c 0 fast\n0;", 15, 2);
        burghFault("clock c 0 slow 100;", 15, 2);
        burghFault("clock c 0 gains 10;", 16, 2);
        burghFault("clock c 0 loses 0;", 16, 2);
        burghFault("clock c 0;master m 31 1 c;", 19, 2);
        burghFault("clock c 0;master m 0 61 c;", 21, 2);
        burghFault("wait 100;", 5, 2);
        burghFault("wait 100", 5, 2);
        bookFault("minute 0;", 7, 2);
        bookFault("minute 1;minute   00", 18, 2);
    }

    private static void namesNotAsTold() {
        Check.words("3 a NAME told twice, not told, or of another sort, a MASTER and a MEET told together again (at the MEET), 'wait' told again (at the WORD)");
        for (String name : new String[] {"x", "m", "e", "cc"}) {
            burghFault(TOWN + "master n 0 1 " + name + ";", TOWN.length() + 13, 3);
            bookFault("m sets " + name + ";", 7, 3);
            bookFault("stop " + name + ";", 5, 3);
            bookFault("start " + name + ";", 6, 3);
            sentenceFault("by " + name, 3, 3);
        }
        for (String name : new String[] {"x", "c", "e", "mm"}) {
            burghFault(TOWN + "comes " + name + " e;", TOWN.length() + 6, 3);
            bookFault(name + " sets c;", 0, 3);
        }
        for (String name : new String[] {"x", "c", "m", "ee"}) {
            burghFault(TOWN + "comes m " + name + ";", TOWN.length() + 8, 3);
            bookFault("move " + name + " 5;", 5, 3);
            sentenceFault("to " + name, 3, 3);
        }
        burghFault("clock c 0;master m 0 1 m;", 23, 3);
        burghFault("master m 0 1 c;clock c 0;", 13, 3);
        burghFault("clock c 0;comes m e;master m 0 1 c;meet e 0;", 16, 3);
        burghFault("clock c 0;master m 0 1 c;comes m e;meet e 0;", 33, 3);
        burghFault(TOWN + "comes m e; comes m  e", TOWN.length() + 20, 3);
        burghFault("wait 5; wait", 8, 3);
        // a NAME of the BURGH that is no more is not told
        LateMasters x = Check.town(TOWN);
        Feeder.burgh(x, "clock k 0;");
        Check.due("book() by a NAME of the BURGH ahead", Feeder.book(x, "stop c;", 1), -2 - 5);
        Check.due("sentence() by a NAME of the BURGH ahead", Feeder.sentence(x, "to e"), -1 - 3);
        Check.due("fault()", x.fault(), 3);
    }

    private static void oneMoreThanThereMayBe() {
        Check.words("4 one more than there may be of a sort, a 41st LINE of a BOOK (at the LINE's first WORD), a 21st ONE, a ninth within (at its first TOKEN).");
        burghFault(clocks(6) + "\nclock", clocks(6).length() + 1, 4);
        burghFault(clocks(6) + " clock ca 0;", clocks(6).length() + 1, 4);
        burghFault(clocks(6) + "clock x 31;", clocks(6).length(), 4);
        burghFault(clocks(6) + masters(6) + "master 5", clocks(6).length() + masters(6).length(), 4);
        burghFault(meets(6) + "  meet !", meets(6).length() + 2, 4);
        burghFault(meets(3) + clocks(6) + meets(6).substring(meets(3).length()) + "meet x 0;",
                meets(6).length() + clocks(6).length(), 4);
        bookFault("minute 1;".repeat(40) + "  m sets c;", 362, 4);
        bookFault("minute 1;".repeat(40) + " minute 0;", 361, 4);
        sentenceFault("out" + " or out".repeat(19) + " or  (out)", 3 + 19 * 7 + 5, 4);
        sentenceFault("out" + " or out".repeat(19) + " or not out", 3 + 19 * 7 + 4, 4);
        sentenceFault("out" + " or out".repeat(19) + " or by x", 3 + 19 * 7 + 4, 4);
        sentenceFault("not ".repeat(8) + "  by x", 34, 4);
        sentenceFault("not ".repeat(8) + "(out)", 32, 4);
    }
}
