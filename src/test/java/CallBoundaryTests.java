/** The boundary cases that promises 1 to 41 name, call by call: too small, too large, empty, full, refused. */
public final class CallBoundaryTests {
    private static final int NONE = LateMasters.NONE;
    private static final int MIN = Integer.MIN_VALUE;
    private static final int MAX = Integer.MAX_VALUE;
    private static final String ONE = "clock c 0;master m 0 1 c;meet e 9;comes m e;";
    /** His CLOCK is 50 minutes ahead, so he comes to e in MINUTE 0, ahead of DUE. */
    private static final String EARLY = "clock c 0 fast 50;master m 0 10 c;meet e 20;comes m e;meet f 90;comes m f;";
    /** Three CLOCKS, two MASTERS, one MEET: numbers that are right for one sort are not for another. */
    private static final String TOWN = "clock a 3 fast 4 gains 5;clock b 9 loses 2;clock c 0;master m 6 7 b;master n 0 8 a;meet e 30;"
            + "comes m e;comes n e;";
    /** What no number of a thing can be. */
    private static final int[] NO_NUMBERS = {MIN, MIN + 1, -256, -7, -6, -2, -1, 6, 7, 31, 32, 33, 64, 255, 256, 65536, MAX - 1, MAX};

    private CallBoundaryTests() {
    }

    public static void main(String[] args) {
        aNewObject();
        fiveHundredAndTwelveCalls();
        feeding();
        feedingTooMuch();
        ending();
        burghs();
        faults();
        clocks();
        wrongs();
        masters();
        meets();
        now();
        setting();
        stopping();
        starting();
        moving();
        minutes();
        whatCanBeUndone();
        eightAreKept();
        undoing();
        comes();
        all();
        missed();
        caught();
        plans();
        times();
        timeFirst();
        looks();
        alikes();
        tends();
        worsts();
        latests();
        latestBys();
        means();
        faces();
        bytesOfFaces();
        drawnHours();
        odds();
        books();
        booksLived();
        booksOfOtherLives();
        toldWhy();
        toldOfTheLatestBook();
        sentences();
        saids();
        images();
        restores();
        whatStaysBehindARestore();
        counts();
        throwingChangesNothing();
        allSixOfEach();
        fewerBehindSix();
        Check.end("CallBoundaryTests");
    }

    private static void aNewObject() {
        Check.words("`LateMasters()`: A BURGH without CLOCKS; an empty tape.");
        LateMasters x = new LateMasters();
        int[] counts = {0, 0, 0, 15, 0};
        for (int what = 0; what < counts.length; what++) {
            Check.due("count(" + what + ")", x.count(what), counts[what]);
        }
        for (int what = 0; what < 6; what++) {
            Check.due("now(" + what + ")", x.now(what), 0);
        }
        Check.due("end(0)", x.end(0), true);
        Check.due("end(1)", x.end(1), false);
        Check.due("fault()", x.fault(), 0);
        Check.due("undo()", x.undo(), NONE);
        Check.due("timeFirst()", x.timeFirst(), NONE);
        Check.due("look()", x.look(), NONE);
        Check.due("latestBy()", x.latestBy(), NONE);
        Check.due("byteAt(0)", x.byteAt(0), NONE);
        Check.due("told(0)", x.told(0), NONE);
        Check.due("said(NONE)", x.said(NONE), NONE);
        Check.due("restore(0)", x.restore(0), false);
        Check.due("restore(1)", x.restore(1), false);
        // nothing is shared with another object
        LateMasters y = Check.town(EARLY);
        y.minutes(5);
        y.image(0);
        y.feed(1, 2, 3, 4, 5);
        Check.due("now(0) of the first", x.now(0), 0);
        Check.due("count(4) of the first", x.count(4), 0);
        Check.due("restore(0) of the first", x.restore(0), false);
        Check.due("count(0) of the first", x.count(0), 0);
        Check.due("image(0) of a new one", x.image(0), true);
        Check.due("restore(0) of a new one", x.restore(0), true);
    }

    private static void fiveHundredAndTwelveCalls() {
        Check.words("An object is used for at most 512 calls after it has been made");
        LateMasters x = new LateMasters();
        Feeder.burgh(x, "clock c 0;");
        // seven calls so far, at most, and 505 more
        for (int i = 0; i < 100; i++) {
            Check.due("stop(0)", x.stop(0), 0);
            Check.due("minutes(1)", x.minutes(1), 1);
            Check.due("start(0)", x.start(0), 0);
            Check.due("wrong(0)", x.wrong(0), -1 - i);
            Check.due("now(0)", x.now(0), 1 + i);
        }
        Check.due("undo()", x.undo(), 7);
        LateMasters y = new LateMasters();
        for (int i = 0; i < 170; i++) {
            Check.due("feed " + i, y.feed(MAX, MIN, -1, 0, i), 20);
            Check.due("end(0) " + i, y.end(0), true);
            Check.due("burgh() " + i, y.burgh(), 0);
        }
        Check.due("count(4)", y.count(4), 0);
        Check.due("fault()", y.fault(), 0);
        LateMasters z = Check.town(TOWN);
        for (int i = 0; i < 500; i++) {
            z.minutes(1);
        }
        Check.due("now(0) of 500 times one", z.now(0), 500);
        Check.due("undo() of 500 times one", z.undo(), 7);
    }

    private static void feeding() {
        Check.words("Twenty bytes come behind the tape, of each number the highest first: how many it has");
        LateMasters x = Check.town("clock a 0;clock b 0;clock c 0;clock d 0;clock e 0;clock f 0;");
        // the bytes of "wait 12;clock k 30;.." in five numbers
        Check.due("feed", x.feed(0x77616974, 0x2031323b, 0x636c6f63, 0x6b206b20, 0x33303b3b), 20);
        Check.due("end(19)", x.end(19), true);
        Check.due("burgh()", x.burgh(), 2);
        Check.due("count(3)", x.count(3), 12);
        Check.due("clock(0, 0)", x.clock(0, 0), 30);
        Check.due("feed", x.feed(0x20202020, 0x20202020, 0x20202020, 0x20202020, 0x206d6565), 20);
        Check.due("feed", x.feed(0x74206520, 0x373b2020, 0x20202020, 0x20202020, 0x2020200a), 40);
        Check.due("burgh() of two feeds", x.burgh(), 1);
        Check.due("meet(0, 0)", x.meet(0, 0), 7);
        // behind what end() left, not behind what was fed
        x.feed(0x77616974, 0x20313233, 0x34353637, 0x38392020, 0x20202020);
        Check.due("end(6)", x.end(6), true);
        Check.due("feed behind end()", x.feed(0x393b2020, 0x20202020, 0x20202020, 0x20202020, 0x20202020), 26);
        Check.due("burgh()", x.burgh(), 1);
        Check.due("count(3)", x.count(3), 19);
        // bytes above 127 are no signs below 0
        LateMasters y = Check.town("clock a 0;");
        y.feed(0xff000000, 0, 0, 0, 0);
        y.end(3);
        Check.due("time() of byte 255", y.time(), NONE);
        y.feed(0x00ff0000, 0, 0, 0, 0);
        y.end(3);
        Check.due("time() of byte 255", y.time(), NONE);
        y.feed(0x00008000, 0, 0, 0, 0);
        y.end(3);
        Check.due("time() of byte 128", y.time(), NONE);
        y.feed(0x00000000, 0, 0, 0, 0);
        y.end(3);
        Check.due("time() of bytes 0", y.time(), 2);
    }

    private static void feedingTooMuch() {
        Check.words("NONE, and none come, if it would have more than 940.");
        LateMasters x = new LateMasters();
        for (int i = 1; i <= 47; i++) {
            Check.due("feed " + i, x.feed(0x20202020, 0x20202020, 0x20202020, 0x20202020, 0x20202020), 20 * i);
        }
        Check.due("feed 48", x.feed(-1, -1, -1, -1, -1), NONE);
        Check.due("count(4)", x.count(4), 940);
        Check.due("feed 49", x.feed(-1, -1, -1, -1, -1), NONE);
        Check.due("end(941)", x.end(941), false);
        Check.due("end(939)", x.end(939), true);
        Check.due("feed behind 939", x.feed(-1, -1, -1, -1, -1), NONE);
        Check.due("end(921)", x.end(921), true);
        Check.due("feed behind 921", x.feed(-1, -1, -1, -1, -1), NONE);
        Check.due("count(4)", x.count(4), 921);
        Check.due("end(920)", x.end(920), true);
        Check.due("feed behind 920", x.feed(-1, -1, -1, -1, -1), 940);
        Check.due("end(900)", x.end(900), true);
        // what did not come is not there: 900 blanks
        Check.due("burgh()", x.burgh(), 0);
        Check.due("feed behind burgh()", x.feed(0, 0, 0, 0, 0), 20);
    }

    private static void ending() {
        Check.words("The tape has its first n bytes alone: true; false, if it has not so many, or n is below 0.");
        LateMasters x = new LateMasters();
        Check.due("end(0) of an empty tape", x.end(0), true);
        Check.due("end(1) of an empty tape", x.end(1), false);
        Check.due("end(-1) of an empty tape", x.end(-1), false);
        x.feed(0, 0, 0, 0, 0);
        for (int n : new int[] {MIN, -1000, -1, 21, 22, 940, 941, MAX}) {
            Check.due("end(" + n + ")", x.end(n), false);
            Check.due("count(4)", x.count(4), 20);
        }
        for (int n : new int[] {20, 19, 1, 1, 0, 0}) {
            Check.due("end(" + n + ")", x.end(n), true);
            Check.due("count(4)", x.count(4), n);
            Check.due("end(" + (n + 1) + ")", x.end(n + 1), false);
        }
    }

    private static void burghs() {
        Check.words("The tape (empty then, here and below) is the BURGH now: how many LINES; -1 less the place of a FAULT: it stays.");
        LateMasters x = Check.town(EARLY);
        x.minutes(7);
        Feeder.text(x, "clock c 31;");
        Check.due("burgh() of a FAULT", x.burgh(), -9);
        Check.due("count(4)", x.count(4), 0);
        Check.due("now(0)", x.now(0), 7);
        Check.due("meet(1, 0)", x.meet(1, 0), 90);
        Feeder.text(x, "!");
        Check.due("burgh() of a FAULT at 0", x.burgh(), -1);
        Check.due("burgh() of an empty tape", x.burgh(), 0);
        Check.due("count(0)", x.count(0), 0);
        Feeder.text(x, ONE);
        Check.due("burgh()", x.burgh(), 4);
        Check.due("count(4)", x.count(4), 0);
        // the most LINES of 900 bytes: 6 of each sort, 36 pairs and 'wait'
        StringBuilder text = new StringBuilder();
        for (int i = 0; i < 6; i++) {
            text.append("clock ").append((char) ('a' + i)).append(" 0;meet ").append((char) ('h' + i)).append(" 0;");
            text.append("master ").append((char) ('u' + i)).append(" 0 1 a;");
        }
        for (int i = 0; i < 36; i++) {
            text.append("comes ").append((char) ('u' + i % 6)).append(' ').append((char) ('h' + i / 6)).append(';');
        }
        text.append("wait 5;");
        Check.due("burgh() of 55 LINES", Feeder.burgh(x, text.toString()), 55);
    }

    private static void faults() {
        Check.words("The kind of the FAULT of the latest burgh(), book() or sentence() (a book() of -1000 leaves it); 0 without one and ahead of any.");
        LateMasters x = new LateMasters();
        Check.due("fault() ahead of any", x.fault(), 0);
        String[] burghs = {"!", "wait 100;", "wait 1;wait 1;", "meet a 0;meet b 0;meet c 0;meet d 0;meet e 0;meet f 0;meet g 0;"};
        for (int kind = 1; kind <= 4; kind++) {
            Feeder.burgh(x, burghs[kind - 1]);
            Check.due("fault() of a burgh()", x.fault(), kind);
        }
        Check.due("book(2)", x.book(2), -1000);
        Check.due("fault() behind it", x.fault(), 4);
        Check.due("book(0)", x.book(0), NONE);
        Check.due("fault() behind it", x.fault(), 0);
        Check.due("sentence()", x.sentence(), -1);
        Check.due("fault() behind it", x.fault(), 1);
        Check.due("book(-1)", x.book(-1), -1000);
        Check.due("fault() behind it", x.fault(), 1);
        // calls that read no such text leave it
        x.time();
        x.undo();
        x.minutes(5);
        x.undo();
        x.image(0);
        x.restore(0);
        x.drawn(1, 1);
        x.face(0);
        x.said(0);
        x.fault();
        Check.due("fault() behind other calls", x.fault(), 1);
        Check.due("burgh()", Feeder.burgh(x, ONE), 4);
        Check.due("fault() behind it", x.fault(), 0);
        String[] books = {"!", "minute 0;", "stop x;", "minute 1;".repeat(41)};
        String[] sentences = {"!", "by x", "not ".repeat(9) + "out"};
        int[] kinds = {1, 3, 4};
        for (int kind = 1; kind <= 4; kind++) {
            Feeder.book(x, books[kind - 1], kind & 1);
            Check.due("fault() of a book()", x.fault(), kind);
        }
        for (int i = 0; i < 3; i++) {
            Feeder.sentence(x, sentences[i]);
            Check.due("fault() of a sentence()", x.fault(), kinds[i]);
        }
        Feeder.sentence(x, "out");
        Check.due("fault() of a sentence() without one", x.fault(), 0);
        Feeder.book(x, "start c;", 1);
        Check.due("fault() of a BOOK that is WRONG", x.fault(), 0);
    }

    private static void clocks() {
        Check.words("4 how many MASTERS go by it, OUT ones, too. NONE: no such ones.");
        LateMasters x = Check.town(TOWN);
        int[][] due = {{3, 5, 0, 4, 1}, {9, -2, 0, 0, 1}, {0, 0, 0, 0, 0}};
        for (int c = 0; c < 3; c++) {
            for (int what = 0; what < 5; what++) {
                Check.due("clock(" + c + ", " + what + ")", x.clock(c, what), due[c][what]);
            }
            for (int what : new int[] {MIN, -2, -1, 5, 6, 7, 256, MAX}) {
                Check.due("clock(" + c + ", " + what + ")", x.clock(c, what), NONE);
            }
        }
        for (int what = 0; what < 5; what++) {
            Check.due("clock(3, " + what + ")", x.clock(3, what), NONE);
            for (int c : NO_NUMBERS) {
                Check.due("clock(" + c + ", " + what + ")", x.clock(c, what), NONE);
            }
        }
        LateMasters six = Check.town("clock c 0 fast 50;clock d 0;master m 0 10 c;master n 0 1 c;master o 0 1 c;master p 0 1 c;"
                + "master q 0 1 c;master r 0 1 c;meet e 20;comes m e;");
        six.minutes(1);
        Check.due("now(1)", six.now(1), 1);
        Check.due("clock(0, 4) of six, one OUT", six.clock(0, 4), 6);
        Check.due("clock(1, 4) of none", six.clock(1, 4), 0);
    }

    private static void wrongs() {
        Check.words("By how many minutes a CLOCK is WRONG now (below 0: behind). NoSuchElementException: no such one.");
        LateMasters x = Check.town(TOWN);
        Check.due("wrong(0)", x.wrong(0), 4);
        Check.due("wrong(1)", x.wrong(1), 0);
        Check.due("wrong(2)", x.wrong(2), 0);
        x.minutes(60);
        Check.due("wrong(0)", x.wrong(0), 9);
        Check.due("wrong(1)", x.wrong(1), -2);
        Check.dueThrow("wrong(3)", () -> x.wrong(3));
        for (int c : NO_NUMBERS) {
            Check.dueThrow("wrong(" + c + ")", () -> x.wrong(c));
        }
        Check.dueThrow("wrong(0) without CLOCKS", () -> new LateMasters().wrong(0));
        LateMasters y = Check.town("clock a 0;clock b 0;clock c 0;clock d 0;clock e 0;clock f 0 slow 99;");
        Check.due("wrong(5) of six", y.wrong(5), -99);
        Check.dueThrow("wrong(6) of six", () -> y.wrong(6));
    }

    private static void masters() {
        Check.words("4 MEETS to which he is to come, 5 has set out, 6 came, as bits each. NoSuchElementException: no such ones.");
        LateMasters x = Check.town(TOWN);
        int[][] due = {{6, 7, 1, 0, 1, 0, 0}, {0, 8, 0, 0, 1, 0, 0}};
        for (int m = 0; m < 2; m++) {
            int master = m;
            for (int what = 0; what < 7; what++) {
                Check.due("master(" + m + ", " + what + ")", x.master(m, what), due[m][what]);
            }
            for (int what : new int[] {MIN, -2, -1, 7, 8, 256, MAX}) {
                Check.dueThrow("master(" + m + ", " + what + ")", () -> x.master(master, what));
            }
        }
        Check.dueThrow("master(2, 0)", () -> x.master(2, 0));
        for (int m : NO_NUMBERS) {
            Check.dueThrow("master(" + m + ", 0)", () -> x.master(m, 0));
            Check.dueThrow("master(" + m + ", 6)", () -> x.master(m, 6));
        }
        Check.dueThrow("master(0, 0) without MASTERS", () -> Check.town("clock c 0;").master(0, 0));
        // all six MEETS as bits, set out to at once, come to later
        LateMasters y = Check.town("clock c 0;master l 0 1 c;master m 5 1 c;meet e 9;meet f 9;meet g 9;meet h 9;meet i 9;meet j 9;"
                + "comes m e;comes m f;comes m g;comes m h;comes m i;comes m j;");
        Check.due("master(1, 4)", y.master(1, 4), 63);
        Check.due("master(0, 4)", y.master(0, 4), 0);
        y.minutes(11);
        Check.due("master(1, 5)", y.master(1, 5), 63);
        Check.due("master(1, 6)", y.master(1, 6), 0);
        y.minutes(5);
        Check.due("master(1, 6)", y.master(1, 6), 63);
        Check.due("master(0, 6)", y.master(0, 6), 0);
    }

    private static void meets() {
        Check.words("Of a MEET: 0 DUE, 1 who is to come, 2 who has set out, 3 who came, as bits each. NONE: no such ones.");
        LateMasters x = Check.town(TOWN);
        int[] due = {30, 3, 0, 0};
        for (int what = 0; what < 4; what++) {
            Check.due("meet(0, " + what + ")", x.meet(0, what), due[what]);
            Check.due("meet(1, " + what + ")", x.meet(1, what), NONE);
            for (int e : NO_NUMBERS) {
                Check.due("meet(" + e + ", " + what + ")", x.meet(e, what), NONE);
            }
        }
        for (int what : new int[] {MIN, -2, -1, 4, 5, 256, MAX}) {
            Check.due("meet(0, " + what + ")", x.meet(0, what), NONE);
        }
        LateMasters y = Check.town("clock c 0;master g 5 1 c;master h 5 1 c;master i 5 1 c;master j 5 1 c;master k 5 1 c;master l 5 1 c;"
                + "meet d 9;meet e 9;comes g e;comes h e;comes i e;comes j e;comes k e;comes l e;");
        Check.due("meet(1, 1)", y.meet(1, 1), 63);
        Check.due("meet(0, 1)", y.meet(0, 1), 0);
        y.minutes(11);
        Check.due("meet(1, 2)", y.meet(1, 2), 63);
        Check.due("meet(1, 3)", y.meet(1, 3), 0);
        y.minutes(5);
        Check.due("meet(1, 3)", y.meet(1, 3), 63);
        Check.due("meet(0, 3)", y.meet(0, 3), 0);
    }

    private static void now() {
        Check.words("4 how often one came so far, 5 minutes behind DUE of all these (not behind: none). NONE for another what.");
        LateMasters x = Check.town(TOWN);
        for (int what : new int[] {MIN, -2, -1, 6, 7, 256, MAX}) {
            Check.due("now(" + what + ")", x.now(what), NONE);
        }
        Check.due("now(3)", x.now(3), 6);
        // one in time, one at DUE, one a minute behind it, one on his way
        LateMasters y = Check.town("clock c 0 fast 90;master k 0 1 c;master l 20 1 c;master m 21 1 c;master n 30 1 c;"
                + "meet e 20;comes k e;comes l e;comes m e;comes n e;");
        y.minutes(22);
        Check.due("now(1)", y.now(1), 3);
        Check.due("now(4)", y.now(4), 3);
        Check.due("now(5)", y.now(5), 1);
        y.minutes(9);
        Check.due("now(4)", y.now(4), 4);
        Check.due("now(5)", y.now(5), 11);
        LateMasters six = Check.town("clock a 0;clock b 0;clock c 0;clock d 0;clock e 0;clock f 0;");
        Check.due("now(3) of six", six.now(3), 63);
        for (int c = 0; c < 6; c++) {
            six.stop(c);
        }
        Check.due("now(2) of six", six.now(2), 63);
        Check.due("now(3) of six that stand right", six.now(3), 63);
        six.minutes(1);
        Check.due("now(3) of six that are one behind", six.now(3), 0);
    }

    private static void setting() {
        Check.words("A MASTER SETS a CLOCK: 0, or why not; NONE: no such ones.");
        LateMasters x = Check.town(TOWN);
        Check.due("set(2, 0)", x.set(2, 0), NONE);
        Check.due("set(0, 3)", x.set(0, 3), NONE);
        for (int none : NO_NUMBERS) {
            Check.due("set(" + none + ", 0)", x.set(none, 0), NONE);
            Check.due("set(0, " + none + ")", x.set(0, none), NONE);
        }
        Check.due("undo() behind all these", x.undo(), NONE);
        Check.due("wrong(0)", x.wrong(0), 4);
        Check.due("set(1, 2), the last of each", x.set(1, 2), 0);
        Check.due("wrong(2)", x.wrong(2), -8);
        Check.due("set(0, 0) of nothing", new LateMasters().set(0, 0), NONE);
        Check.due("set(0, 0) without MASTERS", Check.town("clock c 0;").set(0, 0), NONE);
    }

    private static void stopping() {
        Check.words("A CLOCK is STOPPED: 0, or why not; NONE: no such one.");
        LateMasters x = Check.town(TOWN);
        Check.due("stop(3)", x.stop(3), NONE);
        for (int none : NO_NUMBERS) {
            Check.due("stop(" + none + ")", x.stop(none), NONE);
        }
        Check.due("now(2)", x.now(2), 0);
        Check.due("undo()", x.undo(), NONE);
        Check.due("stop(2)", x.stop(2), 0);
        Check.due("stop(2)", x.stop(2), 1);
        Check.due("now(2)", x.now(2), 4);
        Check.due("stop(0) of nothing", new LateMasters().stop(0), NONE);
    }

    private static void starting() {
        Check.words("It is STARTED: 0, or why not; NONE: no such one.");
        LateMasters x = Check.town(TOWN);
        Check.due("start(3)", x.start(3), NONE);
        for (int none : NO_NUMBERS) {
            Check.due("start(" + none + ")", x.start(none), NONE);
        }
        Check.due("start(2)", x.start(2), 1);
        Check.due("undo()", x.undo(), NONE);
        x.stop(2);
        Check.due("start(2)", x.start(2), 0);
        Check.due("start(2)", x.start(2), 1);
        Check.due("undo() of the START", x.undo(), 1);
        Check.due("now(2)", x.now(2), 4);
        Check.due("start(0) of nothing", new LateMasters().start(0), NONE);
    }

    private static void moving() {
        Check.words("A MEET is MOVED to a MINUTE (0 to 1999): 0, or why not; NONE: no such ones.");
        LateMasters x = Check.town(TOWN);
        Check.due("move(1, 50)", x.move(1, 50), NONE);
        for (int none : NO_NUMBERS) {
            Check.due("move(" + none + ", 50)", x.move(none, 50), NONE);
        }
        for (int due : new int[] {MIN, -2, -1, 2000, 2001, 65536 + 50, MAX}) {
            Check.due("move(0, " + due + ")", x.move(0, due), NONE);
        }
        Check.due("meet(0, 0)", x.meet(0, 0), 30);
        Check.due("undo()", x.undo(), NONE);
        Check.due("move(0, 0)", x.move(0, 0), 2);
        Check.due("move(0, 1)", x.move(0, 1), 0);
        Check.due("move(0, 1999)", x.move(0, 1999), 0);
        Check.due("meet(0, 0)", x.meet(0, 0), 1999);
        // to what it is already: it is done
        Check.due("move(0, 1999)", x.move(0, 1999), 0);
        Check.due("undo()", x.undo(), 2);
        x.move(0, 30);
        x.minutes(50);
        Check.due("meet(0, 2)", x.meet(0, 2), 3);
        Check.due("move(0, 2000) when one has set out", x.move(0, 2000), NONE);
        Check.due("move(0, -1) when one has set out", x.move(0, -1), NONE);
        Check.due("move(0, 1999) when one has set out", x.move(0, 1999), 1);
        Check.due("move(0, 50) of nothing", new LateMasters().move(0, 50), NONE);
    }

    private static void minutes() {
        Check.words("n (1 to 999) MINUTES go by: how many did; NONE: not as told.");
        LateMasters x = new LateMasters();
        for (int n : new int[] {MIN, -999, -1, 0, 1000, 1001, 2000, 65537, MAX}) {
            Check.due("minutes(" + n + ")", x.minutes(n), NONE);
        }
        Check.due("now(0)", x.now(0), 0);
        Check.due("undo()", x.undo(), NONE);
        Check.due("minutes(1)", x.minutes(1), 1);
        Check.due("minutes(999)", x.minutes(999), 999);
        Check.due("minutes(998)", x.minutes(998), 998);
        Check.due("now(0)", x.now(0), 1998);
        Check.due("minutes(999)", x.minutes(999), 2);
        Check.due("now(0)", x.now(0), 2000);
        Check.due("minutes(1)", x.minutes(1), 0);
        Check.due("minutes(999)", x.minutes(999), 0);
        Check.due("minutes(0)", x.minutes(0), NONE);
        Check.due("minutes(1000)", x.minutes(1000), NONE);
        Check.due("undo()", x.undo(), 3);
        Check.due("now(0)", x.now(0), 1998);
        Check.due("minutes(2)", x.minutes(2), 2);
    }

    private static void whatCanBeUndone() {
        Check.words("The latest of set(), stop(), start(), move() that was done, minutes() above 0, drawn() above 0, a BOOK of which some LINE was lived is undone");
        LateMasters x = Check.town(TOWN);
        // refused, of NONE, or only asked: nothing to undo
        x.start(0);
        x.move(0, 0);
        x.set(9, 9);
        x.minutes(0);
        x.drawn(0, 0);
        x.plan(0, 9);
        x.odds(0, 9, 9);
        Feeder.book(x, "start a;stop a;", 1);
        Feeder.book(x, "", 1);
        Feeder.book(x, "stop a;", 0);
        Feeder.book(x, "stop a;!", 1);
        Feeder.sentence(x, "out");
        x.image(0);
        x.face(0);
        Check.due("undo() behind all these", x.undo(), NONE);
        Check.due("set(0, 0)", x.set(0, 0), 0);
        Check.due("stop(0)", x.stop(0), 0);
        Check.due("stop(0) again", x.stop(0), 1);
        Check.due("set(0, 0) STOPPED", x.set(0, 0), 2);
        Check.due("start(0)", x.start(0), 0);
        Check.due("move(0, 99)", x.move(0, 99), 0);
        Check.due("minutes(3)", x.minutes(3), 3);
        Check.due("drawn(1, 7)", x.drawn(1, 7), 60);
        Check.due("book(1)", Feeder.book(x, "stop c;start c;minute 9;start c;", 1), 3);
        Check.due("undo() of the BOOK", x.undo(), 6);
        Check.due("now(0)", x.now(0), 63);
        Check.due("undo() of drawn()", x.undo(), 5);
        Check.due("now(0)", x.now(0), 3);
        Check.due("undo() of minutes()", x.undo(), 4);
        Check.due("now(0)", x.now(0), 0);
        Check.due("meet(0, 0)", x.meet(0, 0), 99);
        Check.due("undo() of move()", x.undo(), 3);
        Check.due("meet(0, 0)", x.meet(0, 0), 30);
        Check.due("now(2)", x.now(2), 0);
        Check.due("undo() of start()", x.undo(), 2);
        Check.due("now(2)", x.now(2), 1);
        Check.due("undo() of stop()", x.undo(), 1);
        Check.due("now(2)", x.now(2), 0);
        Check.due("wrong(0)", x.wrong(0), -7);
        Check.due("undo() of set()", x.undo(), 0);
        Check.due("wrong(0)", x.wrong(0), 4);
        Check.due("undo() of nothing", x.undo(), NONE);
        // at 2000 nothing goes by
        Check.pass(x, 2000);
        Check.due("minutes(5)", x.minutes(5), 0);
        Check.due("drawn(5, 5)", x.drawn(5, 5), 0);
        Check.due("book(1)", Feeder.book(x, "minute 1;", 1), 0);
        Check.due("undo() of the last that went by", x.undo(), 2);
        Check.due("now(0)", x.now(0), 1998);
        // one MINUTE is enough
        x.minutes(1);
        Check.due("drawn(5, 5) at 1999", x.drawn(5, 5), 1);
        Check.due("undo() of it", x.undo(), 3);
        Check.due("now(0)", x.now(0), 1999);
        Check.due("minutes(999) at 1999", x.minutes(999), 1);
        Check.due("undo() of it", x.undo(), 3);
        Check.due("book(1) at 1999", Feeder.book(x, "minute 1;", 1), NONE);
        Check.due("undo() of it", x.undo(), 3);
    }

    private static void eightAreKept() {
        Check.words("how many more can be (8 at most are kept); NONE: none is.");
        LateMasters x = new LateMasters();
        for (int acts = 1; acts <= 20; acts++) {
            x.minutes(1);
            int kept = Math.min(acts, 8);
            Check.due("undo() behind " + acts, x.undo(), kept - 1);
            x.minutes(1);
            Check.due("undo() behind " + acts, x.undo(), kept - 1);
            x.minutes(1);
        }
        for (int i = 7; i >= 0; i--) {
            Check.due("undo()", x.undo(), i);
            Check.due("now(0)", x.now(0), 12 + i);
        }
        Check.due("undo(), the ninth", x.undo(), NONE);
        Check.due("undo(), the tenth", x.undo(), NONE);
        Check.due("now(0)", x.now(0), 12);
        x.minutes(1);
        Check.due("undo() of one more", x.undo(), 0);
        Check.due("undo()", x.undo(), NONE);
    }

    private static void undoing() {
        Check.words("is undone: how many more can be");
        LateMasters x = Check.town(EARLY);
        Feeder.sentence(x, "came > 0");
        x.minutes(1);
        Check.due("said(NONE)", x.said(NONE), 1);
        Check.due("undo()", x.undo(), 0);
        Check.due("now(0)", x.now(0), 0);
        Check.due("now(1)", x.now(1), 0);
        Check.due("meet(0, 2)", x.meet(0, 2), 0);
        Check.due("meet(0, 3)", x.meet(0, 3), 0);
        Check.due("said(NONE), the SENTENCE is no act", x.said(NONE), 0);
        x.minutes(1);
        Check.due("now(1) when it goes by again", x.now(1), 1);
        // a STOPPED CLOCK stands where it did
        LateMasters y = Check.town("clock c 0 gains 5;");
        y.minutes(70);
        y.stop(0);
        y.minutes(10);
        y.start(0);
        y.minutes(50);
        y.stop(0);
        y.undo();
        y.undo();
        y.undo();
        Check.due("wrong(0)", y.wrong(0), -5);
        y.undo();
        Check.due("wrong(0)", y.wrong(0), 5);
        y.undo();
        Check.due("now(2)", y.now(2), 0);
        y.minutes(50);
        Check.due("wrong(0), its hour is as it was", y.wrong(0), 10);
        // a BURGH with a FAULT leaves what can be undone, a new one does not
        y.stop(0);
        Feeder.burgh(y, "!");
        Check.due("undo() behind a FAULT", y.undo(), 2);
        Feeder.burgh(y, "clock c 0;");
        Check.due("undo() behind a new BURGH", y.undo(), NONE);
    }

    private static void comes() {
        Check.words("COMES of a MASTER to a MEET: the MINUTE; NONE: never (by MINUTE 1999), he is not to come, no such ones.");
        LateMasters x = Check.town(TOWN + "meet f 5;comes m f;");
        // by a, four ahead, n's 38 is read in MINUTE 34; by b m's 37 in MINUTE 37, and he walks six
        Check.due("comes(0, 0)", x.comes(0, 0), 43);
        Check.due("comes(1, 0)", x.comes(1, 0), 34);
        Check.due("comes(0, 1)", x.comes(0, 1), 18);
        Check.due("comes(1, 1), not to come", x.comes(1, 1), NONE);
        Check.due("comes(2, 0)", x.comes(2, 0), NONE);
        Check.due("comes(0, 2)", x.comes(0, 2), NONE);
        for (int none : NO_NUMBERS) {
            Check.due("comes(" + none + ", 0)", x.comes(none, 0), NONE);
            Check.due("comes(0, " + none + ")", x.comes(0, none), NONE);
        }
        x.move(0, 1992);
        Check.due("comes(0, 0), never", x.comes(0, 0), NONE);
        x.stop(1);
        Check.due("comes(0, 1), never", x.comes(0, 1), NONE);
        Check.due("comes(0, 0) of nothing", new LateMasters().comes(0, 0), NONE);
    }

    private static void all() {
        Check.words("ALL of a MEET: the MINUTE; NONE: not all come, nobody is to, no such one.");
        LateMasters x = Check.town(TOWN + "meet f 5;");
        Check.due("all(0)", x.all(0), 43);
        Check.due("all(1), nobody is to", x.all(1), NONE);
        Check.due("all(2)", x.all(2), NONE);
        for (int none : NO_NUMBERS) {
            Check.due("all(" + none + ")", x.all(none), NONE);
        }
        x.stop(0);
        Check.due("all(0), not all come", x.all(0), NONE);
        x.stop(1);
        Check.due("all(0), none comes", x.all(0), NONE);
        Check.due("all(0) of nothing", new LateMasters().all(0), NONE);
    }

    private static void missed() {
        Check.words("MISSED of a MEET, as bits; NONE: no such one.");
        LateMasters x = Check.town(TOWN + "meet f 5;wait 4;");
        Check.due("missed(0)", x.missed(0), 1);
        Check.due("missed(1), nobody is to come", x.missed(1), 0);
        Check.due("missed(2)", x.missed(2), NONE);
        for (int none : NO_NUMBERS) {
            Check.due("missed(" + none + ")", x.missed(none), NONE);
        }
        x.stop(0);
        Check.due("missed(0) of both", x.missed(0), 3);
        Check.due("missed(0) of nothing", new LateMasters().missed(0), NONE);
        LateMasters y = Check.town("clock c 0;master g 0 9 c;master h 0 9 c;master i 0 9 c;master j 0 9 c;master k 0 9 c;master l 0 9 c;"
                + "meet e 9;comes g e;comes h e;comes i e;comes j e;comes k e;comes l e;wait 8;");
        Check.due("missed(0) of six", y.missed(0), 63);
    }

    private static void caught() {
        Check.words("CAUGHT of a MEET, as bits; NONE: no such one.");
        LateMasters x = Check.town(EARLY + "meet g 5;");
        Check.due("caught(0)", x.caught(0), 1);
        Check.due("caught(1)", x.caught(1), 0);
        Check.due("caught(2), nobody is to come", x.caught(2), 0);
        Check.due("caught(3)", x.caught(3), NONE);
        for (int none : NO_NUMBERS) {
            Check.due("caught(" + none + ")", x.caught(none), NONE);
        }
        Check.due("caught(0) of nothing", new LateMasters().caught(0), NONE);
        LateMasters y = Check.town("clock c 0 fast 50;master g 0 9 c;master h 0 9 c;master i 0 9 c;master j 0 9 c;master k 0 9 c;"
                + "master l 0 9 c;meet e 9;comes g e;comes h e;comes i e;comes j e;comes k e;comes l e;");
        Check.due("caught(0) of six", y.caught(0), 63);
    }

    private static void plans() {
        Check.words("PLAN of a MEET for n (0 to 240): DUE; NONE: none, it can not be MOVED, nobody is to come, no such ones.");
        LateMasters x = Check.town("clock c 0 fast 20;master m 0 1 c;meet e 9;meet f 9;comes m e;");
        Check.due("plan(0, 0)", x.plan(0, 0), 19);
        Check.due("plan(0, 240)", x.plan(0, 240), 259);
        for (int n : new int[] {MIN, -2, -1, 241, 242, 256, MAX}) {
            Check.due("plan(0, " + n + ")", x.plan(0, n), NONE);
        }
        Check.due("plan(1, 240), nobody is to come", x.plan(1, 240), NONE);
        Check.due("plan(2, 240)", x.plan(2, 240), NONE);
        for (int none : NO_NUMBERS) {
            Check.due("plan(" + none + ", 240)", x.plan(none, 240), NONE);
        }
        x.set(0, 0);
        Check.due("plan(0, 2), none", x.plan(0, 2), NONE);
        Check.due("plan(0, 3)", x.plan(0, 3), 1);
        x.undo();
        x.minutes(1);
        Check.due("plan(0, 240), it can not be MOVED", x.plan(0, 240), NONE);
        Check.due("plan(0, 0) of nothing", new LateMasters().plan(0, 0), NONE);
    }

    private static void times() {
        Check.words("TIME: how many MINUTES; NONE: not as told.");
        LateMasters x = Check.town("clock a 0;clock b 0;");
        x.stop(1);
        Check.due("time()", Feeder.time(x, 0, 1, 1), 2);
        Check.due("time() of 0 MINUTES", Feeder.time(x, 1, 1, 1), 0);
        Check.due("time() of all MINUTES", Feeder.time(x, 1, 0, 0), 1440);
        Check.due("time() of an empty tape", x.time(), NONE);
        Check.due("time() of CLOCK 2", Feeder.time(x, 2, 0, 0), NONE);
        Check.due("count(4), the tape is empty then", x.count(4), 0);
        // as many bytes as the tape may have
        for (int i = 0; i < 47; i++) {
            x.feed(0, 0, 0, 0, 0);
        }
        Check.due("time() of 940 bytes", x.time(), NONE);
        Check.due("count(4)", x.count(4), 0);
    }

    private static void timeFirst() {
        Check.words("The first of them by the latest time() above 0; NONE ahead of any.");
        LateMasters x = Check.town("clock a 0;");
        Check.due("timeFirst() ahead of any", x.timeFirst(), NONE);
        x.time();
        Check.due("timeFirst() behind NONE", x.timeFirst(), NONE);
        Feeder.time(x, 0, 0, 0, 0, 0, 1);
        Check.due("timeFirst() behind 0", x.timeFirst(), NONE);
        Feeder.time(x, 0, 0, 0);
        Check.due("timeFirst()", x.timeFirst(), 0);
        x.minutes(1);
        Feeder.time(x, 0, 0, 0);
        Check.due("timeFirst()", x.timeFirst(), 720);
        Feeder.time(x, 0, 0, 0, 0, 0, 1);
        Check.due("timeFirst() behind 0", x.timeFirst(), 720);
        Feeder.time(x, 1, 0, 0);
        Check.due("timeFirst() behind NONE", x.timeFirst(), 720);
        Feeder.burgh(x, "");
        Check.due("timeFirst() in another BURGH", x.timeFirst(), 720);
    }

    private static void looks() {
        Check.words("LOOK by that; NONE ahead of any.");
        LateMasters x = Check.town("clock a 0;clock b 0 gains 1;");
        Check.due("look() ahead of any", x.look(), NONE);
        x.time();
        Check.due("look() behind NONE", x.look(), NONE);
        Feeder.time(x, 0, 0, 0, 0, 0, 1);
        Check.due("look() behind 0", x.look(), NONE);
        Feeder.time(x, 0, 0, 0);
        Check.due("look()", x.look(), 1);
        Feeder.time(x, 0, 0, 0, 0, 0, 1);
        Check.due("look() behind 0", x.look(), 1);
        x.time();
        Check.due("look() behind NONE", x.look(), 1);
        Feeder.time(x, 0, 0, 0, 1, 0, 0);
        Check.due("look() behind 1", x.look(), 0);
    }

    private static void alikes() {
        Check.words("ALIKE: minutes; NONE: in none of these, there are no CLOCKS.");
        Check.due("alike() of none", new LateMasters().alike(), NONE);
        Check.due("alike() of MEETS alone", Check.town("meet e 5;").alike(), NONE);
        Check.due("alike() of one", Check.town("clock a 0 slow 9;").alike(), 0);
        Check.due("alike() of two like ones", Check.town("clock a 0 slow 9;clock b 5 slow 9;").alike(), 0);
        Check.due("alike() of two others", Check.town("clock a 0 slow 9;clock b 0 slow 8;").alike(), NONE);
        Check.due("alike() in an hour", Check.town("clock a 0 slow 9 gains 1;clock b 0 slow 8;").alike(), 60);
    }

    private static void tends() {
        Check.words("TEND of a MASTER for n (0 to 99): minutes (0: none is so WRONG, or all are at his CORNER); NONE: no such ones.");
        LateMasters x = Check.town("clock a 7 fast 99 gains 9;clock b 5;master m 0 1 a;master n 7 1 a;");
        x.minutes(60);
        Check.due("tend(0, 0)", x.tend(0, 0), 7);
        Check.due("tend(0, 99)", x.tend(0, 99), 7);
        Check.due("tend(1, 99), all at his CORNER", x.tend(1, 99), 0);
        Check.due("tend(0, 0), none is WRONG", Check.town("clock a 7;master m 0 1 a;").tend(0, 0), 0);
        for (int n : new int[] {MIN, -2, -1, 100, 101, 256, MAX}) {
            Check.due("tend(0, " + n + ")", x.tend(0, n), NONE);
        }
        Check.due("tend(2, 0)", x.tend(2, 0), NONE);
        for (int none : NO_NUMBERS) {
            Check.due("tend(" + none + ", 0)", x.tend(none, 0), NONE);
        }
        Check.due("tend(0, 0) of nothing", new LateMasters().tend(0, 0), NONE);
    }

    private static void worsts() {
        Check.words("WORST; NONE: no CLOCK is WRONG.");
        Check.due("worst() of nothing", new LateMasters().worst(), NONE);
        Check.due("worst() of right ones", Check.town("clock a 0;clock b 3;").worst(), NONE);
        Check.due("worst() by one ahead", Check.town("clock a 0;clock b 3 fast 1;").worst(), 1);
        Check.due("worst() by one behind", Check.town("clock a 0;clock b 3 slow 1;").worst(), 1);
        LateMasters x = Check.town("clock a 0 fast 1;master m 0 1 a;");
        x.stop(0);
        x.minutes(1);
        Check.due("worst() of one that stands right", x.worst(), NONE);
    }

    private static void latests() {
        Check.words("LATEST; NONE: nobody came behind DUE.");
        Check.due("latest() of nothing", new LateMasters().latest(), NONE);
        LateMasters x = Check.town("clock c 0;master k 0 1 c;master l 0 9 c;meet e 9;comes k e;comes l e;");
        x.minutes(10);
        Check.due("latest() when nobody came", x.latest(), NONE);
        x.minutes(1);
        Check.due("latest()", x.latest(), 0);
        x.minutes(8);
        Check.due("latest()", x.latest(), 1);
        x.undo();
        Check.due("latest() undone", x.latest(), 0);
        LateMasters y = Check.town(EARLY);
        y.minutes(60);
        Check.due("latest() of one ahead of DUE", y.latest(), NONE);
    }

    private static void latestBys() {
        Check.words("By how many minutes, by the latest latest() that was not NONE; NONE ahead of any.");
        LateMasters x = Check.town(ONE);
        Check.due("latestBy() ahead of any", x.latestBy(), NONE);
        x.latest();
        Check.due("latestBy() behind NONE", x.latestBy(), NONE);
        x.minutes(50);
        Check.due("latestBy() without a latest()", x.latestBy(), NONE);
        x.latest();
        Check.due("latestBy()", x.latestBy(), 1);
        x.undo();
        Check.due("latest() undone", x.latest(), NONE);
        Check.due("latestBy() behind NONE", x.latestBy(), 1);
        Feeder.burgh(x, "clock c 0;master m 30 60 c;meet e 9;comes m e;");
        Check.due("latestBy() in another BURGH", x.latestBy(), 1);
        x.minutes(999);
        Check.due("latestBy() as it was told", x.latestBy(), 1);
        x.latest();
        Check.due("latestBy()", x.latestBy(), 90);
    }

    private static void means() {
        Check.words("What is told by now(5) by now(4). NoSuchElementException: nobody came, no such ones.");
        LateMasters x = Check.town(ONE);
        Check.dueThrow("mean(0), nobody came", () -> x.mean(0));
        Check.dueThrow("mean(1), nobody came", () -> x.mean(1));
        Check.dueThrow("mean(2), nobody came", () -> x.mean(2));
        x.minutes(11);
        Check.due("mean(0)", x.mean(0), 1);
        Check.due("mean(1)", x.mean(1), 1);
        for (int what : new int[] {MIN, -2, -1, 2, 3, 256, MAX}) {
            Check.dueThrow("mean(" + what + ")", () -> x.mean(what));
        }
        x.undo();
        Check.dueThrow("mean(0) undone", () -> x.mean(0));
        Check.dueThrow("mean(0) of nothing", () -> new LateMasters().mean(0));
        LateMasters y = Check.town(EARLY);
        y.minutes(1);
        Check.due("mean(0) of one in time", y.mean(0), 0);
        Check.due("mean(1) of one in time", y.mean(1), 1);
    }

    private static void faces() {
        Check.words("FACE of a CLOCK: how many bytes; NONE: no such one.");
        LateMasters x = Check.town("clock a 0;clock abcdefg 0 slow 1;");
        Check.due("face(0)", x.face(0), 12);
        Check.due("face(1)", x.face(1), 19);
        x.stop(1);
        Check.due("face(1) STOPPED", x.face(1), 27);
        Check.due("face(2)", x.face(2), NONE);
        for (int none : NO_NUMBERS) {
            Check.due("face(" + none + ")", x.face(none), NONE);
        }
        Check.due("byteAt(26) stays", x.byteAt(26), 'd');
        Check.due("face(0) of nothing", new LateMasters().face(0), NONE);
    }

    private static void bytesOfFaces() {
        Check.words("Byte i of the latest FACE; NONE: none such.");
        LateMasters x = Check.town("clock a 0;clock abcdefg 0 slow 1;");
        Check.due("byteAt(0) ahead of any", x.byteAt(0), NONE);
        x.face(1);
        Check.due("byteAt(0)", x.byteAt(0), 'a');
        Check.due("byteAt(1)", x.byteAt(1), 'b');
        Check.due("byteAt(18)", x.byteAt(18), '9');
        Check.due("byteAt(19)", x.byteAt(19), NONE);
        x.face(0);
        Check.due("byteAt(1) of another", x.byteAt(1), ' ');
        Check.due("byteAt(11) of another", x.byteAt(11), '0');
        Check.due("byteAt(12) of another", x.byteAt(12), NONE);
        Check.due("byteAt(18) of another", x.byteAt(18), NONE);
        for (int none : new int[] {MIN, -2, -1, 12, 13, 16, 27, 28, 256, MAX}) {
            Check.due("byteAt(" + none + ")", x.byteAt(none), NONE);
        }
        // as it was told: neither MINUTES nor a STOP nor another BURGH change it
        x.minutes(5);
        x.stop(0);
        Check.due("byteAt(11) as it was told", x.byteAt(11), '0');
        Check.due("byteAt(12) as it was told", x.byteAt(12), NONE);
        x.face(7);
        Feeder.burgh(x, "");
        Check.due("byteAt(0) in another BURGH", x.byteAt(0), 'a');
    }

    private static void drawnHours() {
        Check.words("n (1 to 24) hours DRAWN by a seed: how many MINUTES went by; NONE: not as told.");
        LateMasters x = Check.town(TOWN);
        for (int n : new int[] {MIN, -24, -1, 0, 25, 26, 256, 65537, MAX}) {
            Check.due("drawn(" + n + ", 1)", x.drawn(n, 1), NONE);
        }
        Check.due("now(0)", x.now(0), 0);
        Check.due("undo()", x.undo(), NONE);
        Check.due("drawn(1, MIN)", x.drawn(1, MIN), 60);
        Check.due("drawn(24, MAX)", x.drawn(24, MAX), 1440);
        Check.due("drawn(24, 0)", x.drawn(24, 0), 500);
        Check.due("drawn(1, 0)", x.drawn(1, 0), 0);
        Check.due("drawn(0, 0)", x.drawn(0, 0), NONE);
        Check.due("drawn(25, 0)", x.drawn(25, 0), NONE);
        Check.due("undo()", x.undo(), 2);
        Check.due("now(0)", x.now(0), 1500);
    }

    private static void odds() {
        Check.words("Of n (1 to 20) seeds x, x and 1, .. by how many a MASTER is OUT behind 6 hours DRAWN from now on; NONE: no such ones.");
        String risky = "clock c 0 fast 9;clock d 3 gains 9;master m 0 5 c;master n 0 60 d;meet e 200;comes m e;comes n e;"
                + "meet f 333;comes n f;meet g 355;comes m g;comes n g;";
        LateMasters x = Check.town(risky);
        for (int n : new int[] {MIN, -20, -1, 0, 21, 22, 256, MAX}) {
            Check.due("odds(0, " + n + ", 1)", x.odds(0, n, 1), NONE);
        }
        Check.due("odds(2, 1, 1)", x.odds(2, 1, 1), NONE);
        for (int none : NO_NUMBERS) {
            Check.due("odds(" + none + ", 1, 1)", x.odds(none, 1, 1), NONE);
        }
        Check.due("odds(0, 1, 1) of nothing", new LateMasters().odds(0, 1, 1), NONE);
        int most = 0;
        int least = 20;
        for (int seed : new int[] {0, 1, -10, MAX - 9, MAX, MIN}) {
            for (int m = 0; m < 2; m++) {
                int found = 0;
                for (int n = 1; n <= 20; n++) {
                    LateMasters y = Check.town(risky);
                    y.drawn(6, seed + n - 1);
                    found += y.master(m, 3);
                    Check.due("odds(" + m + ", " + n + ", " + seed + ")", x.odds(m, n, seed), found);
                }
                most = Math.max(most, found);
                least = Math.min(least, found);
            }
        }
        Check.due("by some seeds he is found out, by some not", most > least, true);
        Check.due("now(0) stays", x.now(0), 0);
        Check.due("undo() stays", x.undo(), NONE);
        // from now on: six hours reach as far as MINUTE now and 359
        LateMasters z = Check.town("clock c 0 fast 1;master m 0 1 c;meet e 360;comes m e;");
        int seed = quietSeed();
        Check.due("odds(0, 1, ..) at 0, found out in MINUTE 360", z.odds(0, 1, seed), 0);
        z.minutes(1);
        Check.due("odds(0, 1, ..) at 1", z.odds(0, 1, seed), 1);
        Check.pass(z, 360);
        Check.due("odds(0, 20, ..) of one OUT", z.odds(0, 20, seed), 20);
        Check.pass(z, 2000);
        Check.due("odds(0, 20, ..) of one OUT at 2000", z.odds(0, 20, seed), 20);
    }

    /** A seed by which six hours leave all as it is. */
    private static int quietSeed() {
        for (int seed = 0; seed < 100000; seed++) {
            LateMasters y = Check.town("clock c 0 fast 1;master m 0 5 c;");
            y.drawn(6, seed);
            if (y.wrong(0) == 1 && y.now(2) == 0) {
                return seed;
            }
        }
        return 0;
    }

    private static void books() {
        Check.words("it is judged, all staying as it is (lives 0)");
        LateMasters x = Check.town(EARLY);
        Check.due("book(0)", Feeder.book(x, "m sets c;stop c;minute 9;start c;move f 500;minute 60;", 0), NONE);
        Check.due("now(0)", x.now(0), 0);
        Check.due("now(2)", x.now(2), 0);
        Check.due("wrong(0)", x.wrong(0), 50);
        Check.due("meet(1, 0)", x.meet(1, 0), 90);
        Check.due("undo()", x.undo(), NONE);
        Check.due("count(4)", x.count(4), 0);
        Check.words("the LINE that is WRONG; NONE: none; -2 less the place of a FAULT;");
        Check.due("book(0) of no LINES", x.book(0), NONE);
        Check.due("book(0), LINE 0", Feeder.book(x, "start c;", 0), 0);
        Check.due("book(0), LINE 1", Feeder.book(x, "minute 5;start c;start c;", 0), 1);
        Check.due("book(0), LINE 39", Feeder.book(x, "minute 1;".repeat(39) + "start c;", 0), 39);
        Check.due("book(0), a FAULT at 0", Feeder.book(x, "!", 0), -2);
        Check.due("book(0), a FAULT at 9", Feeder.book(x, "minute 1;!", 0), -11);
        Check.due("book(0), a FAULT at 400", Feeder.book(x, " ".repeat(401), 0), -402);
        // a FAULT behind a LINE that is WRONG is the FAULT still
        Check.due("book(0)", Feeder.book(x, "start c;!", 0), -10);
    }

    private static void booksLived() {
        Check.words("or lived as far as it is not WRONG (1)");
        LateMasters x = Check.town(TOWN);
        Check.due("book(1)", Feeder.book(x, "minute 5;stop a;stop a;minute 7;", 1), 2);
        Check.due("now(0)", x.now(0), 5);
        Check.due("now(2)", x.now(2), 1);
        Check.due("undo() of the BOOK", x.undo(), 0);
        Check.due("now(0)", x.now(0), 0);
        Check.due("now(2)", x.now(2), 0);
        Check.due("book(1), WRONG at once", Feeder.book(x, "start a;minute 7;", 1), 0);
        Check.due("now(0)", x.now(0), 0);
        Check.due("undo()", x.undo(), NONE);
        Check.due("book(1) of no LINES", x.book(1), NONE);
        Check.due("undo()", x.undo(), NONE);
        Check.due("book(1) with a FAULT", Feeder.book(x, "minute 7;stop x;", 1), -16);
        Check.due("now(0)", x.now(0), 0);
        Check.due("book(1)", Feeder.book(x, "m sets c;move e 99;minute 7;stop b;start b;", 1), NONE);
        Check.due("now(0)", x.now(0), 7);
        Check.due("wrong(2)", x.wrong(2), -7);
        Check.due("meet(0, 0)", x.meet(0, 0), 99);
        // more MINUTES than are left are not gone in part
        Check.due("book(1)", Feeder.book(x, "minute 999;minute 993;minute 2;", 1), 2);
        Check.due("now(0)", x.now(0), 1999);
        Check.due("book(1)", Feeder.book(x, "minute 1;", 1), NONE);
        Check.due("now(0)", x.now(0), 2000);
        Check.due("book(1)", Feeder.book(x, "stop c;minute 1;", 1), 1);
        Check.due("now(2)", x.now(2), 4);
    }

    private static void booksOfOtherLives() {
        Check.words("-1000: another lives (the tape stays).");
        LateMasters x = Check.town(TOWN);
        Feeder.text(x, "stop a;");
        for (int lives : new int[] {MIN, -2, -1, 2, 3, 256, MAX}) {
            Check.due("book(" + lives + ")", x.book(lives), -1000);
            Check.due("count(4)", x.count(4), 7);
        }
        Check.due("now(2)", x.now(2), 0);
        Check.due("told(0) ahead of any", x.told(0), NONE);
        Check.due("book(1)", x.book(1), NONE);
        Check.due("now(2)", x.now(2), 1);
        Check.due("book(2) of an empty tape", x.book(2), -1000);
    }

    private static void dueTold(LateMasters x, String text, int why, int lines, int minute, int out) {
        Feeder.book(x, text, 0);
        Check.due("told(0) of <" + text + ">", x.told(0), why);
        Check.due("told(1) of <" + text + ">", x.told(1), lines);
        Check.due("told(2) of <" + text + ">", x.told(2), minute);
        Check.due("told(3) of <" + text + ">", x.told(3), out);
    }

    private static void toldWhy() {
        Check.words("0 why it was WRONG (0: it was not; 1, 2 as for setting, 11 stopping, 21 starting, 31, 32 moving; 41: fewer MINUTES are left), 1 LINES that are not, 2 the MINUTE then, 3 who is OUT then, as bits.");
        LateMasters x = Check.town(EARLY + "clock d 0;master n 0 7 d;");
        dueTold(x, "", 0, 0, 0, 0);
        dueTold(x, "minute 1;", 0, 1, 1, 1);
        dueTold(x, "minute 1;m sets d;", 1, 1, 1, 1);
        dueTold(x, "stop d;n sets d;", 2, 1, 0, 0);
        dueTold(x, "stop d;minute 1;m sets d;", 1, 2, 1, 1);
        dueTold(x, "stop d;minute 3;stop d;minute 5;", 11, 2, 3, 1);
        dueTold(x, "start d;", 21, 0, 0, 0);
        dueTold(x, "stop c;start c;start c;", 21, 2, 0, 0);
        dueTold(x, "minute 1;move e 99;", 31, 1, 1, 1);
        dueTold(x, "minute 1;move e 0;", 31, 1, 1, 1);
        dueTold(x, "minute 10;move f 10;", 32, 1, 10, 1);
        dueTold(x, "minute 10;move f 11;", 0, 2, 10, 1);
        dueTold(x, "move e 0;", 32, 0, 0, 0);
        dueTold(x, "minute 999;minute 999;minute 2;", 0, 3, 2000, 1);
        dueTold(x, "minute 999;minute 999;minute 3;minute 1;", 41, 2, 1998, 1);
        dueTold(x, "minute 999;minute 999;minute 2;minute 1;", 41, 3, 2000, 1);
        dueTold(x, "minute 999;minute 999;minute 1;move f 999;", 32, 3, 1999, 1);
        LateMasters six = Check.town("clock c 0 fast 50;master g 0 9 c;master h 0 9 c;master i 0 9 c;master j 0 9 c;master k 0 9 c;"
                + "master l 0 9 c;meet e 9;comes g e;comes h e;comes i e;comes j e;comes k e;comes l e;");
        dueTold(six, "minute 1;", 0, 1, 1, 63);
    }

    private static void toldOfTheLatestBook() {
        Check.words("Of the latest book() that had no FAULT (and was not -1000)");
        Check.words("NONE: another what, or ahead of any.");
        LateMasters x = Check.town(EARLY);
        for (int what = -1; what < 5; what++) {
            Check.due("told(" + what + ") ahead of any", x.told(what), NONE);
        }
        Feeder.book(x, "!", 0);
        Check.due("told(0) behind a FAULT", x.told(0), NONE);
        x.book(5);
        Check.due("told(0) behind -1000", x.told(0), NONE);
        Feeder.book(x, "minute 5;start c;", 0);
        for (int what : new int[] {MIN, -2, -1, 4, 5, 256, MAX}) {
            Check.due("told(" + what + ")", x.told(what), NONE);
        }
        Feeder.book(x, "minute 7;stop x;", 1);
        Feeder.text(x, "minute 7;");
        x.book(2);
        x.end(0);
        x.minutes(3);
        Feeder.burgh(x, "");
        int[] due = {21, 1, 5, 1};
        for (int what = 0; what < 4; what++) {
            Check.due("told(" + what + ") of the latest without a FAULT", x.told(what), due[what]);
        }
        x.book(1);
        for (int what = 0; what < 4; what++) {
            Check.due("told(" + what + ") of one without LINES", x.told(what), 0);
        }
    }

    private static void sentences() {
        Check.words("The tape is the SENTENCE now: how many ONES (each not, bracket and other one); -1 less the place of a FAULT: it stays.");
        LateMasters x = Check.town(ONE);
        Check.due("sentence() of an empty tape", x.sentence(), -1);
        Check.due("said(NONE)", x.said(NONE), NONE);
        Check.due("sentence()", Feeder.sentence(x, "number = 0"), 1);
        Check.due("said(NONE)", x.said(NONE), 1);
        Check.due("sentence()", Feeder.sentence(x, "not(out or number=0)and(right)"), 6);
        Check.due("said(NONE)", x.said(NONE), 0);
        Check.due("sentence() with a FAULT at 0", Feeder.sentence(x, "!"), -1);
        Check.due("said(NONE), it stays", x.said(NONE), 0);
        Check.due("sentence() with a FAULT at the end", Feeder.sentence(x, "number = 0 or"), -14);
        Check.due("said(NONE), it stays", x.said(NONE), 0);
        Check.due("sentence() with a FAULT at 200", Feeder.sentence(x, "number = 0" + " ".repeat(191)), -201);
        Check.due("said(NONE), it stays", x.said(NONE), 0);
        Check.due("count(4)", x.count(4), 0);
        Check.due("sentence()", Feeder.sentence(x, "right"), 1);
        Check.due("said(NONE)", x.said(NONE), 1);
    }

    private static void dueSaid(LateMasters x, String text, int bits) {
        Feeder.sentence(x, text);
        int k = 0;
        for (int m = 0; m < 6; m++) {
            if ((bits >> m & 1) != 0) {
                Check.due("said(" + k + ") of <" + text + ">", x.said(k), m);
                k++;
            }
        }
        Check.due("said(NONE) of <" + text + ">", x.said(NONE), k);
        for (int none : new int[] {MIN, -3, -2, k, k + 1, 6, 7, MAX}) {
            Check.due("said(" + none + ") of <" + text + ">", x.said(none), none < k && none >= 0 ? x.said(none) : NONE);
        }
    }

    private static void saids() {
        Check.words("MASTERS of whom it may be said: how many (k NONE), or the k-th. NONE: there is no SENTENCE, none such.");
        LateMasters x = Check.town("clock c 0;clock d 5 fast 2;master g 0 1 c;master h 1 2 d;master i 2 3 c;master j 3 4 d;master k 4 5 c;"
                + "master l 5 60 d;meet e 9;meet f 30;comes g e;comes l f;comes h e;comes h f;");
        Check.due("said(NONE) without one", x.said(NONE), NONE);
        Check.due("said(0) without one", x.said(0), NONE);
        dueSaid(x, "out", 0);
        dueSaid(x, "not out", 63);
        dueSaid(x, "number > 4", 32);
        dueSaid(x, "number < 1", 1);
        dueSaid(x, "number = 5 or number = 0", 33);
        dueSaid(x, "by d", 42);
        dueSaid(x, "by c", 21);
        dueSaid(x, "right", 21);
        dueSaid(x, "to e", 3);
        dueSaid(x, "to f", 34);
        dueSaid(x, "late = 60", 32);
        dueSaid(x, "late > 60", 0);
        dueSaid(x, "late < 2", 1);
        dueSaid(x, "corner < 1", 1);
        dueSaid(x, "corner > 4", 32);
        dueSaid(x, "corner = 2", 4);
        dueSaid(x, "came = 0", 63);
        dueSaid(x, "going", 0);
        // 'number < 3' of bits 7, 'by d' of bits 42, 'number > 1' of bits 60
        dueSaid(x, "not by d", 21);
        dueSaid(x, "not not by d", 42);
        dueSaid(x, "not number < 3", 56);
        dueSaid(x, "number < 3 or by d and number > 1", 47);
        dueSaid(x, "number < 3 and by d or number > 1", 62);
        dueSaid(x, "number < 3 and(by d or number > 1)", 6);
        dueSaid(x, "(number < 3 or by d)and number > 1", 44);
        dueSaid(x, "not number < 3 and by d", 40);
        dueSaid(x, "not(number < 3 and by d)", 61);
        dueSaid(x, "not number < 3 or not by d", 61);
        dueSaid(x, "number < 3 or by d or number > 1", 63);
        dueSaid(x, "number < 3 and by d and number > 1", 0);
        dueSaid(x, "number < 3 or not by d and number > 1", 23);
        dueSaid(x, "number < 3 or(by d and(number > 1 or number < 3))", 47);
        dueSaid(x, "number < 3 and not(by d or not number > 1)", 4);
        dueSaid(x, "out or by d and number > 1 and number < 5", 8);
        x.minutes(10);
        // h has set out by d, two ahead, in MINUTE 9, and comes in MINUTE 10; g sets out and comes in MINUTE 10
        dueSaid(x, "going", 2);
        x.minutes(1);
        dueSaid(x, "going", 0);
        dueSaid(x, "came = 1", 3);
        dueSaid(x, "came > 1", 0);
        // to f, h sets out by d in MINUTE 30: he has come to e, and is on his way again
        x.minutes(20);
        dueSaid(x, "going and came = 1", 2);
        x.minutes(1);
        dueSaid(x, "going", 0);
        dueSaid(x, "came = 2", 2);
        x.minutes(999);
        dueSaid(x, "came = 2", 2);
        dueSaid(x, "came < 1", 28);
        // without MASTERS it may be said of none
        LateMasters none = Check.town("clock c 0;");
        Check.due("sentence() without MASTERS", Feeder.sentence(none, "not out"), 2);
        Check.due("said(NONE) without MASTERS", none.said(NONE), 0);
        Check.due("said(0) without MASTERS", none.said(0), NONE);
        // who is found out
        LateMasters out = Check.town(EARLY);
        Feeder.sentence(out, "out");
        Check.due("said(NONE)", out.said(NONE), 0);
        out.minutes(1);
        Check.due("said(NONE)", out.said(NONE), 1);
    }

    private static void images() {
        Check.words("BURGH, all that is so and the SENTENCE are kept in place k (0, 1): true; false: no such one.");
        LateMasters x = Check.town(EARLY);
        for (int k : new int[] {MIN, -2, -1, 2, 3, 256, MAX}) {
            Check.due("image(" + k + ")", x.image(k), false);
            Check.due("restore(" + k + ")", x.restore(k), false);
        }
        Check.due("restore(0)", x.restore(0), false);
        Check.due("restore(1)", x.restore(1), false);
        Feeder.sentence(x, "out");
        x.minutes(3);
        x.stop(0);
        Check.due("image(0)", x.image(0), true);
        Check.due("undo() behind an image()", x.undo(), 1);
        Check.due("restore(1)", x.restore(1), false);
        Feeder.burgh(x, "clock a 0;clock b 7 fast 3;wait 2;");
        Check.due("image(1)", x.image(1), true);
        x.minutes(60);
        for (int i = 0; i < 2; i++) {
            Check.due("restore(0)", x.restore(0), true);
            Check.due("now(0)", x.now(0), 3);
            Check.due("now(1)", x.now(1), 1);
            Check.due("now(2)", x.now(2), 1);
            Check.due("count(0)", x.count(0), 1);
            Check.due("count(2)", x.count(2), 2);
            Check.due("count(3)", x.count(3), 15);
            Check.due("said(NONE)", x.said(NONE), 1);
            Check.due("meet(0, 3)", x.meet(0, 3), 1);
            Check.due("comes(0, 0)", x.comes(0, 0), 0);
            Check.due("face(0)", Feeder.face(x, 0), "c shows 0.53 stopped");
            x.start(0);
            x.minutes(9);
            Check.due("restore(1)", x.restore(1), true);
            Check.due("now(0)", x.now(0), 0);
            Check.due("count(0)", x.count(0), 2);
            Check.due("count(1)", x.count(1), 0);
            Check.due("count(3)", x.count(3), 2);
            Check.due("said(NONE)", x.said(NONE), NONE);
            Check.due("wrong(1)", x.wrong(1), 3);
            Feeder.sentence(x, "out");
            x.drawn(3, i);
        }
        // kept anew
        Check.due("image(0)", x.image(0), true);
        x.burgh();
        Check.due("restore(0)", x.restore(0), true);
        Check.due("count(0)", x.count(0), 2);
        Check.due("now(0)", x.now(0), 180);
        Check.due("said(NONE)", x.said(NONE), 0);
    }

    private static void restores() {
        Check.words("nothing can be undone): true; false: no such one, or nothing is kept there.");
        LateMasters x = Check.town(TOWN);
        x.minutes(1);
        x.image(1);
        x.minutes(2);
        Check.due("restore(0), nothing is kept there", x.restore(0), false);
        Check.due("restore(2)", x.restore(2), false);
        Check.due("restore(-1)", x.restore(-1), false);
        Check.due("now(0)", x.now(0), 3);
        Check.due("undo() behind these", x.undo(), 1);
        Check.due("restore(1)", x.restore(1), true);
        Check.due("undo()", x.undo(), NONE);
        Check.due("now(0)", x.now(0), 1);
        x.minutes(4);
        Check.due("undo() of what was done since", x.undo(), 0);
        Check.due("undo()", x.undo(), NONE);
        Check.due("now(0)", x.now(0), 1);
        // an image of a new object
        LateMasters y = new LateMasters();
        y.image(0);
        Feeder.burgh(y, TOWN);
        Check.due("restore(0)", y.restore(0), true);
        Check.due("count(0)", y.count(0), 0);
        Check.due("burgh() behind it", Feeder.burgh(y, TOWN), 8);
        Check.due("comes(0, 0)", y.comes(0, 0), 43);
    }

    private static void whatStaysBehindARestore() {
        Check.words("They are as kept in place k (the tape, and what other calls told last, stays;");
        LateMasters x = Check.town(ONE);
        x.image(0);
        x.minutes(12);
        x.latest();
        x.face(0);
        Feeder.time(x, 0, 1, 0);
        Feeder.book(x, "minute 5;start c;", 1);
        Feeder.sentence(x, "by e");
        Feeder.text(x, "wait 5;");
        Check.due("restore(0)", x.restore(0), true);
        Check.due("count(4)", x.count(4), 7);
        Check.due("fault()", x.fault(), 3);
        Check.due("latestBy()", x.latestBy(), 1);
        Check.due("byteAt(11)", x.byteAt(11), '2');
        Check.due("timeFirst()", x.timeFirst(), 60);
        Check.due("look()", x.look(), 0);
        Check.due("told(0)", x.told(0), 21);
        Check.due("told(2)", x.told(2), 17);
        Check.due("now(0)", x.now(0), 0);
        Check.due("burgh() of the tape that stayed", x.burgh(), 1);
        Check.due("count(3)", x.count(3), 5);
        Check.due("restore(0), kept still", x.restore(0), true);
        Check.due("count(0)", x.count(0), 1);
    }

    private static void counts() {
        Check.words("0 CLOCKS, 1 MASTERS, 2 MEETS, 3 'wait', 4 bytes of the tape. NONE for another what.");
        LateMasters x = Check.town(TOWN);
        int[] due = {3, 2, 1, 15, 0};
        for (int what = 0; what < due.length; what++) {
            Check.due("count(" + what + ")", x.count(what), due[what]);
        }
        for (int what : new int[] {MIN, -2, -1, 5, 6, 256, MAX}) {
            Check.due("count(" + what + ")", x.count(what), NONE);
        }
        for (int i = 1; i <= 47; i++) {
            x.feed(0, 0, 0, 0, 0);
            Check.due("count(4)", x.count(4), 20 * i);
        }
        x.end(7);
        Check.due("count(4)", x.count(4), 7);
    }

    private static void throwingChangesNothing() {
        Check.words("A call that throws changes nothing.");
        LateMasters x = Check.town(ONE);
        x.minutes(1);
        x.feed(1, 2, 3, 4, 5);
        Check.dueThrow("wrong(1)", () -> x.wrong(1));
        Check.dueThrow("master(1, 0)", () -> x.master(1, 0));
        Check.dueThrow("master(0, 7)", () -> x.master(0, 7));
        Check.dueThrow("mean(0)", () -> x.mean(0));
        Check.due("now(0)", x.now(0), 1);
        Check.due("count(4)", x.count(4), 20);
        Check.due("fault()", x.fault(), 0);
        Check.due("wrong(0)", x.wrong(0), 0);
        Check.due("master(0, 1)", x.master(0, 1), 1);
        Check.due("undo()", x.undo(), 0);
    }

    /** Six of each, all told to come to all; each MASTER's LATE is his number and 1, each MEET is DUE 100 behind the last. */
    private static String full() {
        StringBuilder text = new StringBuilder();
        for (int i = 0; i < 6; i++) {
            text.append("clock ").append((char) ('a' + i)).append(' ').append(5 * i).append(" fast ").append(i + 1).append(';');
            text.append("meet ").append((char) ('h' + i)).append(' ').append(100 * i + 50).append(';');
        }
        for (int i = 0; i < 6; i++) {
            text.append("master ").append((char) ('u' + i)).append(' ').append(30 - i).append(' ').append(i + 1);
            text.append(' ').append((char) ('a' + i)).append(';');
        }
        for (int i = 0; i < 36; i++) {
            text.append("comes ").append((char) ('u' + i % 6)).append(' ').append((char) ('h' + i / 6)).append(';');
        }
        return text.toString();
    }

    /** In MINUTE DUE all set out; MASTER m comes 30 - m minutes behind it. */
    private static void allSixOfEach() {
        Check.words("6 CLOCKS, 6 MASTERS, 6 MEETS at most, numbered from 0 each.");
        LateMasters x = Check.town(full());
        x.minutes(10);
        x.image(0);
        for (int e = 0; e < 6; e++) {
            Check.due("all(" + e + ")", x.all(e), 100 * e + 80);
            Check.due("missed(" + e + ")", x.missed(e), 63);
            Check.due("caught(" + e + ")", x.caught(e), 0);
            Check.due("plan(" + e + ", 240)", x.plan(e, 240), 220);
            for (int m = 0; m < 6; m++) {
                Check.due("comes(" + m + ", " + e + ")", x.comes(m, e), 100 * e + 80 - m);
            }
        }
        Check.due("worst()", x.worst(), 5);
        Check.due("alike()", x.alike(), NONE);
        Check.due("tend(0, 0)", x.tend(0, 0), 30);
        Check.due("tend(5, 0)", x.tend(5, 0), 25);
        Check.due("tend(5, 5)", x.tend(5, 5), 0);
        Check.due("tend(0, 5)", x.tend(0, 5), 5);
        x.minutes(999);
        dueAllCame(x);
        Check.due("undo()", x.undo(), 1);
        Check.due("now(4) undone", x.now(4), 0);
        x.minutes(560);
        // each has come to five MEETS and is on his way to the sixth
        Feeder.sentence(x, "going and came = 5");
        Check.due("said(NONE)", x.said(NONE), 6);
        Check.due("now(4)", x.now(4), 36 - 6);
        x.image(1);
        x.restore(0);
        Check.due("now(4) restored", x.now(4), 0);
        Check.due("said(NONE) restored", x.said(NONE), NONE);
        x.restore(1);
        Check.due("now(4) restored", x.now(4), 30);
        for (int e = 0; e < 6; e++) {
            Check.due("meet(" + e + ", 2) restored", x.meet(e, 2), 63);
            Check.due("meet(" + e + ", 3) restored", x.meet(e, 3), e < 5 ? 63 : 0);
            Check.due("comes(5, " + e + ") restored", x.comes(5, e), 100 * e + 75);
        }
        x.minutes(999);
        dueAllCame(x);
        Check.due("undo()", x.undo(), 0);
        for (int m = 0; m < 6; m++) {
            Check.due("master(" + m + ", 5)", x.master(m, 5), 63);
            Check.due("master(" + m + ", 6)", x.master(m, 6), 31);
        }
        Check.due("book(1)", Feeder.book(x, "z sets f;stop f;minute 900;start f;", 1), NONE);
        dueAllCame(x);
    }

    private static void dueAllCame(LateMasters x) {
        Check.due("now(1)", x.now(1), 0);
        Check.due("now(4)", x.now(4), 36);
        Check.due("now(5)", x.now(5), 6 * (30 + 29 + 28 + 27 + 26 + 25));
        Check.due("mean(0)", x.mean(0), 55);
        Check.due("mean(1)", x.mean(1), 2);
        Check.due("latest()", x.latest(), 0);
        Check.due("latestBy()", x.latestBy(), 30);
        for (int m = 0; m < 6; m++) {
            Check.due("master(" + m + ", 6)", x.master(m, 6), 63);
            Check.due("meet(" + m + ", 3)", x.meet(m, 3), 63);
        }
    }

    private static void fewerBehindSix() {
        Check.words("A new BURGH: MINUTE 0, nobody has set out, nothing STOPPED, no SENTENCE.");
        LateMasters x = Check.town(full());
        x.minutes(999);
        for (int c = 0; c < 6; c++) {
            x.stop(c);
        }
        Feeder.burgh(x, "clock a 0;clock b 7;master m 3 1 a;meet e 50;meet f 60;comes m e;");
        for (int what = 0; what < 6; what++) {
            Check.due("now(" + what + ")", x.now(what), what == 3 ? 3 : 0);
        }
        Check.due("worst()", x.worst(), NONE);
        Check.due("tend(0, 0)", x.tend(0, 0), 0);
        Check.due("alike()", x.alike(), 0);
        Check.due("latest()", x.latest(), NONE);
        Check.dueThrow("mean(0)", () -> x.mean(0));
        Check.due("master(0, 4)", x.master(0, 4), 1);
        Check.due("master(0, 6)", x.master(0, 6), 0);
        Check.due("meet(1, 1)", x.meet(1, 1), 0);
        Check.due("meet(0, 1)", x.meet(0, 1), 1);
        Check.due("clock(1, 3)", x.clock(1, 3), 0);
        Check.due("clock(0, 4)", x.clock(0, 4), 1);
        Check.due("clock(1, 4)", x.clock(1, 4), 0);
        Check.due("clock(2, 0)", x.clock(2, 0), NONE);
        Check.due("face(2)", x.face(2), NONE);
        Check.due("time() of CLOCK 2", Feeder.time(x, 2, 0, 0), NONE);
        Check.due("all(0)", x.all(0), 54);
        Check.due("all(1)", x.all(1), NONE);
        Check.due("comes(0, 1)", x.comes(0, 1), NONE);
        Feeder.sentence(x, "not out");
        Check.due("said(NONE)", x.said(NONE), 1);
        Check.due("book(0)", Feeder.book(x, "stop c;", 0), -7);
        x.minutes(60);
        Check.due("now(4)", x.now(4), 1);
        Check.due("now(5)", x.now(5), 4);
        Check.due("now(3)", x.now(3), 3);
        for (int seed = 0; seed < 30; seed++) {
            x.drawn(1, seed);
            Check.due("now(2) is of two CLOCKS", x.now(2) & ~3, 0);
        }
    }
}
