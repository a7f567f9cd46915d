import java.util.NoSuchElementException;

/** Each of the document's promises 1 to 41 by worked answers: ordinary inputs, edges and wrong inputs. */
public final class PromiseTests {
    private static final int NONE = LateMasters.NONE;
    private static final String TOWN = "clock dom 5 fast 10 gains 6;clock ash 0;clock elm 20 slow 5 loses 3;"
            + "master ann 4 20 dom;master bob 0 10 ash;master cid 15 5 elm;meet tea 60;meet ball 100;"
            + "comes ann tea;comes bob tea;comes cid ball;comes ann ball;wait 15;";
    /** His CLOCK is 50 minutes ahead, so he comes to e in MINUTE 0, ahead of DUE. */
    private static final String EARLY = "clock c 0 fast 50;master m 0 10 c;meet e 20;comes m e;meet f 90;comes m f;";
    private static int wrong = 0;
    private static int checks = 0;

    private static void due(int promise, String call, long got, long want) {
        checks++;
        if (got != want) {
            wrong++;
            System.out.println("promise " + promise + ": " + call + " answered " + got + ", due is " + want);
        }
    }

    private static void due(int promise, String call, boolean got, boolean want) {
        due(promise, call, got ? 1 : 0, want ? 1 : 0);
    }

    private interface Throwing {
        int call();
    }

    private static void dueThrow(int promise, String call, Throwing call1) {
        boolean thrown = false;
        try {
            call1.call();
        } catch (NoSuchElementException e) {
            thrown = true;
        }
        due(promise, call + " throws", thrown, true);
    }

    private static LateMasters town(String text) {
        LateMasters x = new LateMasters();
        if (Feeder.burgh(x, text) < 0) {
            due(4, "burgh() of " + text, -1, 0);
        }
        return x;
    }

    private static void dueFault(String text, int place, int kind) {
        LateMasters x = town(TOWN);
        due(4, "burgh() of <" + text + ">", Feeder.burgh(x, text), -1 - place);
        due(5, "fault() of <" + text + ">", x.fault(), kind);
        due(4, "count(0) behind <" + text + ">", x.count(0), 3);
        due(4, "count(4) behind <" + text + ">", x.count(4), 0);
    }

    private static String times(String text, int n) {
        return text.repeat(n);
    }

    public static void main(String[] args) {
        newObject();
        tape();
        burghs();
        faults();
        longBurghs();
        clocks();
        wrongBy();
        masters();
        meetsAndNow();
        settingClocks();
        moving();
        minutesGo();
        undoing();
        foreseen();
        plans();
        times();
        alikeTendWorst();
        latestAndMean();
        faces();
        drawnHours();
        odds();
        books();
        bookFaults();
        sentences();
        sentenceFaults();
        images();
        counts();
        System.out.println("PromiseTests: " + checks + " answers, " + wrong + " not as due");
        if (wrong > 0) {
            System.exit(1);
        }
    }

    private static void newObject() {
        LateMasters x = new LateMasters();
        due(1, "NONE", LateMasters.NONE, -1);
        for (int what = 0; what < 3; what++) {
            due(1, "count(" + what + ")", x.count(what), 0);
        }
        due(1, "count(3)", x.count(3), 15);
        due(1, "count(4)", x.count(4), 0);
        due(1, "now(0)", x.now(0), 0);
        due(1, "fault()", x.fault(), 0);
        due(1, "burgh() of an empty tape", x.burgh(), 0);
    }

    private static void tape() {
        LateMasters x = new LateMasters();
        due(2, "feed", x.feed(0x636c6f63, 0x6b206320, 0x373b0000, -1, 0x80000000), 20);
        due(3, "end(11) ahead", x.end(21), false);
        due(3, "end(-1)", x.end(-1), false);
        due(2, "count(4)", x.count(4), 20);
        due(3, "end(10)", x.end(10), true);
        due(3, "end(11)", x.end(11), false);
        due(2, "burgh() of what was fed", x.burgh(), 1);
        due(2, "clock(0, 0)", x.clock(0, 0), 7);
        for (int i = 1; i <= 47; i++) {
            due(2, "feed " + i, x.feed(i, i, i, i, i), 20 * i);
        }
        due(2, "feed 48", x.feed(0, 0, 0, 0, 0), NONE);
        due(2, "count(4)", x.count(4), 940);
        due(3, "end(940)", x.end(940), true);
        due(3, "end(921)", x.end(921), true);
        due(2, "feed behind 921", x.feed(0, 0, 0, 0, 0), NONE);
        due(3, "end(920)", x.end(920), true);
        due(2, "feed behind 920", x.feed(0, 0, 0, 0, 0), 940);
        due(3, "end(0)", x.end(0), true);
        due(3, "count(4)", x.count(4), 0);
    }

    private static void burghs() {
        LateMasters x = new LateMasters();
        due(4, "burgh()", Feeder.burgh(x, TOWN), 13);
        due(4, "count(0)", x.count(0), 3);
        due(4, "count(1)", x.count(1), 3);
        due(4, "count(2)", x.count(2), 2);
        x.minutes(70);
        x.stop(0);
        Feeder.sentence(x, "out");
        due(4, "blanks", Feeder.burgh(x, "\n clock\na 007fast 010 ;wait\n0;"), -1 - 10);
        due(4, "blanks", Feeder.burgh(x, "\n clock\na 007 fast\n010;wait 0 ;\n"), 2);
        due(4, "leading zeros", x.clock(0, 0), 7);
        due(4, "fast 010", x.clock(0, 3), 10);
        due(4, "wait 0", x.count(3), 0);
        due(4, "now(0) of a new one", x.now(0), 0);
        due(4, "now(2) of a new one", x.now(2), 0);
        due(4, "said() of a new one", x.said(NONE), NONE);
        due(4, "undo() of a new one", x.undo(), NONE);
        due(4, "edges", Feeder.burgh(x, "clock a 30 slow 99 loses 9;clock b 0 fast 1 gains 1;master m 30 60 a;"
                + "master n 0 1 b;meet e 0;meet f 999;comes n f;comes m f;comes m e;wait 99;"), 10);
        due(4, "all six of each", Feeder.burgh(x, "clock a 0;clock b 0;clock c 0;clock d 0;clock e 0;clock f 0;"
                + "master g 0 1 a;master h 0 1 a;master i 0 1 a;master j 0 1 a;master k 0 1 a;master l 0 1 f;"
                + "meet m 0;meet n 0;meet o 0;meet p 0;meet q 0;meet r 0;comes g m;comes l r;comes l m;"), 21);
        due(4, "master(5, 4)", x.master(5, 4), 33);
        due(4, "from a to z", Feeder.burgh(x, "clock azaz 0;meet z 0;"), 2);
        due(4, "wait without", x.count(3), 15);
        due(4, "nothing", Feeder.burgh(x, " \n "), 0);
        due(4, "count(0) of nothing", x.count(0), 0);
    }

    private static void faults() {
        dueFault("clock", 5, 1);
        dueFault("clock c", 7, 1);
        dueFault("clock c 0 ", 10, 1);
        dueFault("clock c 0;;", 10, 1);
        dueFault("bell c 0;", 0, 1);
        dueFault("fast 3;", 0, 1);
        dueFault("clock clock 0;", 6, 1);
        dueFault("clock number 0;", 6, 1);
        dueFault("clock minute 0;", 6, 1);
        dueFault("clock 3 0;", 6, 1);
        dueFault("clock abcdefg 0;clock abcdefgh 0;", 22, 1);
        dueFault("clock c1 0;", 6, 1);
        dueFault("clock c 0a;", 8, 1);
        dueFault("clock c 0\t;", 9, 1);
        dueFault("clock c 0.", 9, 1);
        dueFault("clock c 0 slow;", 14, 1);
        dueFault("clock c 0 slow 0;", 15, 2);
        dueFault("clock c 0 loses 10;", 16, 2);
        dueFault("clock c 0 gains 1 fast 1;", 18, 1);
        dueFault("clock c 31;", 8, 2);
        dueFault("clock c 1000;", 8, 1);
        dueFault("clock c 0;clock c 0;", 16, 3);
        dueFault("clock c 0;meet c 0;", 15, 3);
        dueFault("meet c 0;clock c 0;", 15, 3);
        dueFault("clock c 0;master d 0 1 c;meet d 0;", 30, 3);
        dueFault("master m 0 1 c;clock c 0;", 13, 3);
        dueFault("clock c 0;master m 0 1 m;", 23, 3);
        dueFault("clock c 0;master m 0 1 by;", 23, 1);
        dueFault("clock c 0;master m 0 0 c;", 21, 2);
        dueFault("clock c 0;comes c c;", 16, 3);
        dueFault("clock c 0;master m 0 1 c;comes m m;", 33, 3);
        dueFault("clock c 0;master m 0 1 c;meet e 9;comes m e;comes m e;", 52, 3);
        dueFault("wait 9;wait x;", 7, 3);
        dueFault("wait 100;", 5, 2);
        dueFault("meet a 0;meet b 0;meet c 0;meet d 0;meet e 0;meet f 0;meet A", 54, 4);
        LateMasters x = town("wait 3;");
        due(5, "fault() without one", x.fault(), 0);
        Feeder.text(x, "wait");
        due(5, "book(2)", x.book(2), -1000);
        due(5, "fault() behind book(2)", x.fault(), 0);
        due(5, "sentence() of what stayed", x.sentence(), -1);
        due(5, "fault() of it", x.fault(), 1);
        due(5, "book(-1)", x.book(-1), -1000);
        due(5, "fault() behind book(-1)", x.fault(), 1);
        due(5, "book() of stop c", Feeder.book(x, "stop c;", 0), -2 - 5);
        due(5, "fault() of it", x.fault(), 3);
    }

    private static void longBurghs() {
        LateMasters x = new LateMasters();
        due(4, "900 bytes", Feeder.burgh(x, "clock c 0;" + times(" ", 890)), 1);
        due(4, "901 bytes", Feeder.burgh(x, "clock d 0;" + times("\n", 891)), -1 - 900);
        due(5, "fault() of 901 bytes", x.fault(), 1);
        due(4, "a FAULT ahead", Feeder.burgh(x, "clock c 31;" + times(" ", 900)), -1 - 8);
        due(4, "the end is too far", Feeder.burgh(x, "clock c 1" + times(" ", 900)), -1 - 900);
        due(4, "a TOKEN over the edge", Feeder.burgh(x, times(" ", 898) + "meet e 5;"), -1 - 900);
        due(4, "too long a one over it", Feeder.burgh(x, times(" ", 898) + "meetings;"), -1 - 898);
        due(4, "one that can't come over it", Feeder.burgh(x, times(" ", 898) + "fast 5;"), -1 - 898);
        due(4, "one behind it", Feeder.burgh(x, times(" ", 900) + "A"), -1 - 900);
        due(4, "a word cut off at 900", Feeder.burgh(x, times(" ", 896) + "cloc"), -1 - 896);
    }

    private static void clocks() {
        LateMasters x = town(TOWN);
        int[] want = {5, 6, 0, 10, 1, NONE};
        for (int what = 0; what < 6; what++) {
            due(6, "clock(0, " + what + ")", x.clock(0, what), want[what]);
        }
        due(6, "clock(2, 1)", x.clock(2, 1), -3);
        due(6, "clock(2, 3)", x.clock(2, 3), 715);
        due(6, "clock(3, 0)", x.clock(3, 0), NONE);
        due(6, "clock(-1, 0)", x.clock(-1, 0), NONE);
        due(6, "clock(0, -1)", x.clock(0, -1), NONE);
        x.minutes(59);
        due(6, "clock(0, 3) at 59", x.clock(0, 3), 69);
        x.minutes(1);
        due(6, "clock(0, 3) at 60", x.clock(0, 3), 76);
        due(6, "clock(2, 3) at 60", x.clock(2, 3), 52);
        x.stop(0);
        x.minutes(700);
        due(6, "clock(0, 2) STOPPED", x.clock(0, 2), 1);
        due(6, "clock(0, 3) STOPPED", x.clock(0, 3), 76);
        due(6, "clock(1, 3) at 760", x.clock(1, 3), 40);
        LateMasters y = town(EARLY);
        y.minutes(1);
        due(6, "clock(0, 4) with one OUT", y.clock(0, 4), 1);
    }

    private static void wrongBy() {
        LateMasters x = town(TOWN);
        due(7, "wrong(0)", x.wrong(0), 10);
        due(7, "wrong(1)", x.wrong(1), 0);
        due(7, "wrong(2)", x.wrong(2), -5);
        x.minutes(125);
        due(7, "wrong(0) at 125", x.wrong(0), 22);
        due(7, "wrong(2) at 125", x.wrong(2), -11);
        x.stop(0);
        x.minutes(10);
        due(7, "wrong(0) STOPPED", x.wrong(0), 12);
        x.start(0);
        x.minutes(59);
        due(7, "wrong(0) 59 behind a START", x.wrong(0), 12);
        x.minutes(1);
        due(7, "wrong(0) 60 behind it", x.wrong(0), 18);
        dueThrow(7, "wrong(3)", () -> x.wrong(3));
        dueThrow(7, "wrong(-1)", () -> x.wrong(-1));
    }

    private static void masters() {
        LateMasters x = town(TOWN);
        int[] want = {4, 20, 0, 0, 3, 0, 0};
        for (int what = 0; what < 7; what++) {
            due(8, "master(0, " + what + ")", x.master(0, what), want[what]);
        }
        due(8, "master(2, 2)", x.master(2, 2), 2);
        dueThrow(8, "master(0, 7)", () -> x.master(0, 7));
        dueThrow(8, "master(0, -1)", () -> x.master(0, -1));
        dueThrow(8, "master(3, 0)", () -> x.master(3, 0));
        dueThrow(8, "master(-1, 0)", () -> x.master(-1, 0));
        // ann's CLOCK READS 80 in MINUTE 64; she comes four minutes behind that
        x.minutes(64);
        due(8, "master(0, 5) at 64", x.master(0, 5), 0);
        x.minutes(1);
        due(8, "master(0, 5) at 65", x.master(0, 5), 1);
        due(8, "master(0, 6) at 65", x.master(0, 6), 0);
        x.minutes(4);
        due(8, "master(0, 6) at 69", x.master(0, 6), 1);
        due(8, "master(0, 3) at 69", x.master(0, 3), 0);
        LateMasters y = town(EARLY);
        y.minutes(1);
        due(8, "master(0, 3) OUT", y.master(0, 3), 1);
    }

    private static void meetsAndNow() {
        LateMasters x = town(TOWN);
        due(9, "meet(0, 0)", x.meet(0, 0), 60);
        due(9, "meet(0, 1)", x.meet(0, 1), 3);
        due(9, "meet(1, 1)", x.meet(1, 1), 5);
        due(9, "meet(2, 0)", x.meet(2, 0), NONE);
        due(9, "meet(-1, 0)", x.meet(-1, 0), NONE);
        due(9, "meet(0, 4)", x.meet(0, 4), NONE);
        due(9, "meet(0, -1)", x.meet(0, -1), NONE);
        due(10, "now(3)", x.now(3), 2);
        x.minutes(68);
        due(9, "meet(0, 2)", x.meet(0, 2), 1);
        due(9, "meet(0, 3)", x.meet(0, 3), 0);
        due(10, "now(4)", x.now(4), 0);
        x.minutes(3);
        due(9, "meet(0, 3)", x.meet(0, 3), 3);
        due(10, "now(0)", x.now(0), 71);
        due(10, "now(4)", x.now(4), 2);
        due(10, "now(5)", x.now(5), 8 + 10);
        due(10, "now(1)", x.now(1), 0);
        x.stop(2);
        x.stop(0);
        due(10, "now(2)", x.now(2), 5);
        x.minutes(16);
        due(10, "now(3) with one that stands right", x.now(3), 3);
        due(10, "now(6)", x.now(6), NONE);
        due(10, "now(-1)", x.now(-1), NONE);
        LateMasters y = town(EARLY);
        y.minutes(1);
        due(10, "now(1) with one OUT", y.now(1), 1);
        due(10, "now(4) with one OUT", y.now(4), 1);
        due(10, "now(5) of one in time", y.now(5), 0);
    }

    private static void settingClocks() {
        LateMasters x = town(TOWN);
        due(11, "set(3, 0)", x.set(3, 0), NONE);
        due(11, "set(0, 3)", x.set(0, 3), NONE);
        due(11, "set(-1, 0)", x.set(-1, 0), NONE);
        due(11, "set(0, -1)", x.set(0, -1), NONE);
        x.minutes(30);
        due(11, "set(1, 0)", x.set(1, 0), 0);
        due(11, "wrong(0) as SET", x.wrong(0), -10);
        x.minutes(59);
        due(11, "wrong(0) 59 behind it", x.wrong(0), -10);
        x.minutes(1);
        due(11, "wrong(0) 60 behind it", x.wrong(0), -4);
        due(12, "stop(0)", x.stop(0), 0);
        due(12, "stop(0) again", x.stop(0), 1);
        due(11, "set(1, 0) STOPPED", x.set(1, 0), 2);
        due(12, "stop(3)", x.stop(3), NONE);
        due(12, "stop(-1)", x.stop(-1), NONE);
        x.minutes(5);
        due(12, "wrong(0) STOPPED", x.wrong(0), -9);
        due(13, "start(1)", x.start(1), 1);
        due(13, "start(0)", x.start(0), 0);
        due(13, "start(0) again", x.start(0), 1);
        due(13, "wrong(0) as STARTED", x.wrong(0), -9);
        due(13, "start(3)", x.start(3), NONE);
        due(13, "start(-1)", x.start(-1), NONE);
        LateMasters y = town(EARLY);
        y.minutes(1);
        due(11, "set(0, 0) OUT", y.set(0, 0), 1);
        y.stop(0);
        due(11, "set(0, 0) OUT and STOPPED", y.set(0, 0), 1);
    }

    private static void moving() {
        LateMasters x = town(TOWN);
        x.minutes(30);
        due(14, "move(0, 30)", x.move(0, 30), 2);
        due(14, "move(0, 0)", x.move(0, 0), 2);
        due(14, "move(0, 31)", x.move(0, 31), 0);
        due(14, "meet(0, 0)", x.meet(0, 0), 31);
        due(14, "move(0, 1999)", x.move(0, 1999), 0);
        due(14, "move(0, 2000)", x.move(0, 2000), NONE);
        due(14, "move(0, -1)", x.move(0, -1), NONE);
        due(14, "move(2, 50)", x.move(2, 50), NONE);
        due(14, "move(-1, 50)", x.move(-1, 50), NONE);
        due(14, "move(0, 60)", x.move(0, 60), 0);
        x.minutes(35);
        due(14, "move(0, 999) when one has set out", x.move(0, 999), 1);
        due(14, "move(0, 0) when one has set out", x.move(0, 0), 1);
        due(14, "meet(0, 0)", x.meet(0, 0), 60);
        due(14, "move(1, 70)", x.move(1, 70), 0);
    }

    private static void minutesGo() {
        LateMasters x = town(TOWN);
        due(15, "minutes(0)", x.minutes(0), NONE);
        due(15, "minutes(-5)", x.minutes(-5), NONE);
        due(15, "minutes(1000)", x.minutes(1000), NONE);
        due(15, "minutes(999)", x.minutes(999), 999);
        due(15, "minutes(999)", x.minutes(999), 999);
        due(15, "now(0)", x.now(0), 1998);
        due(15, "minutes(1)", x.minutes(1), 1);
        due(15, "minutes(7)", x.minutes(7), 1);
        due(15, "now(0)", x.now(0), 2000);
        due(16, "undo() of the last MINUTE", x.undo(), 3);
        due(33, "drawn(2, 1) at 1999", x.drawn(2, 1), 1);
        due(16, "undo() of the last MINUTE, DRAWN", x.undo(), 3);
        due(15, "minutes(1)", x.minutes(1), 1);
        due(15, "minutes(7)", x.minutes(7), 0);
        due(15, "move(1, 1999) when all is over", x.move(0, 1999), 1);
        // both MEETS in one MINUTE: found out at the first, he does not set out to the second
        LateMasters y = town("clock c 0 fast 90;master m 0 1 c;meet e 20;meet f 30;comes m f;comes m e;");
        y.minutes(1);
        due(15, "master(0, 5)", y.master(0, 5), 1);
        due(15, "master(0, 6)", y.master(0, 6), 1);
        due(15, "now(1)", y.now(1), 1);
        // he has set out to f when he is found out at e, and comes there
        LateMasters z = town("clock c 0 fast 90;master m 5 1 c;meet e 20;meet f 30;comes m e;comes m f;meet g 99;"
                + "comes m g;");
        z.minutes(5);
        due(15, "now(1) at 5", z.now(1), 0);
        z.minutes(1);
        due(15, "now(1) at 6", z.now(1), 1);
        due(15, "master(0, 6) at 6", z.master(0, 6), 3);
        z.minutes(200);
        due(15, "master(0, 5) at 206", z.master(0, 5), 3);
        // not behind DUE: just at DUE
        LateMasters at = town("clock c 0 fast 1;master m 0 1 c;meet e 20;comes m e;master n 1 1 c;comes n e;");
        at.minutes(22);
        due(15, "now(1) of one at DUE, one behind", at.now(1), 1);
        due(15, "now(5)", at.now(5), 1);
        due(28, "latest() by one minute", at.latest(), 1);
        due(29, "latestBy() of one minute", at.latestBy(), 1);
    }

    private static void undoing() {
        LateMasters x = town(TOWN);
        due(16, "undo() of nothing", x.undo(), NONE);
        x.stop(0);
        x.stop(0);
        x.start(1);
        x.minutes(0);
        x.move(0, 0);
        due(16, "undo() of the stop", x.undo(), 0);
        due(16, "clock(0, 2)", x.clock(0, 2), 0);
        for (int i = 0; i < 10; i++) {
            x.minutes(10);
        }
        for (int i = 0; i < 8; i++) {
            due(16, "undo() " + i, x.undo(), 7 - i);
            due(16, "now(0)", x.now(0), 90 - 10 * i);
        }
        due(16, "a ninth undo()", x.undo(), NONE);
        due(16, "now(0)", x.now(0), 20);
        x.set(0, 1);
        x.move(1, 555);
        x.drawn(2, 5);
        Feeder.book(x, "stop ash;minute 5;start ash;stop foo;", 1);
        Feeder.book(x, "stop ash;minute 5;start ash;start ash;", 1);
        Feeder.book(x, "start ash;", 1);
        Feeder.book(x, "stop ash;", 0);
        x.stop(2);
        x.start(2);
        due(16, "undo() of a start", x.undo(), 5);
        due(16, "clock(2, 2)", x.clock(2, 2), 1);
        due(16, "undo() of a stop", x.undo(), 4);
        due(16, "undo() of a BOOK", x.undo(), 3);
        due(16, "now(0)", x.now(0), 140);
        due(16, "undo() of hours", x.undo(), 2);
        due(16, "now(0)", x.now(0), 20);
        due(16, "undo() of a move", x.undo(), 1);
        due(16, "meet(1, 0)", x.meet(1, 0), 100);
        due(16, "undo() of a set", x.undo(), 0);
        due(16, "wrong(1)", x.wrong(1), 0);
        x.minutes(999);
        x.minutes(900);
        x.minutes(999);
        x.minutes(1);
        x.drawn(1, 1);
        due(16, "undo() at the end", x.undo(), 2);
        due(16, "comes back", x.meet(0, 3), 3);
        due(16, "undo()", x.undo(), 1);
        due(16, "undo()", x.undo(), 0);
        due(16, "meet(0, 3) undone", x.meet(0, 3), 0);
        due(16, "undo()", x.undo(), NONE);
    }

    private static void foreseen() {
        LateMasters x = town(TOWN);
        due(17, "comes(0, 0)", x.comes(0, 0), 68);
        due(17, "comes(1, 0)", x.comes(1, 0), 70);
        // ann's CLOCK READS 120 in MINUTE 104
        due(17, "comes(0, 1)", x.comes(0, 1), 108);
        // elm READS 113 - 5 - 3 = 105 in MINUTE 113
        due(17, "comes(2, 1)", x.comes(2, 1), 128);
        due(17, "comes(1, 1)", x.comes(1, 1), NONE);
        due(17, "comes(3, 0)", x.comes(3, 0), NONE);
        due(17, "comes(0, 2)", x.comes(0, 2), NONE);
        due(17, "comes(-1, 0)", x.comes(-1, 0), NONE);
        due(17, "comes(0, -1)", x.comes(0, -1), NONE);
        due(18, "all(0)", x.all(0), 70);
        due(18, "all(1)", x.all(1), 128);
        due(18, "all(2)", x.all(2), NONE);
        due(18, "all(-1)", x.all(-1), NONE);
        due(19, "missed(0)", x.missed(0), 0);
        due(19, "missed(1)", x.missed(1), 4);
        due(19, "missed(2)", x.missed(2), NONE);
        due(19, "missed(-1)", x.missed(-1), NONE);
        due(20, "caught(0)", x.caught(0), 0);
        due(20, "caught(2)", x.caught(2), NONE);
        due(20, "caught(-1)", x.caught(-1), NONE);
        due(17, "now(0) stays", x.now(0), 0);
        x.minutes(200);
        due(17, "comes(0, 0) behind it", x.comes(0, 0), 68);
        due(18, "all(1) behind it", x.all(1), 128);
        x.undo();
        x.set(2, 0);
        due(18, "all(0) by what is so now", x.all(0), 83);
        x.undo();
        due(17, "comes(0, 0) by what is so now", x.comes(0, 0), 68);
        x.minutes(200);
        due(19, "missed(1) behind it", x.missed(1), 4);
        LateMasters y = town(EARLY + "meet g 5;");
        due(17, "comes(0, 0) in time", y.comes(0, 0), 0);
        due(17, "comes(0, 1) found out", y.comes(0, 1), NONE);
        due(18, "all(1) found out", y.all(1), NONE);
        due(18, "all(2) of nobody", y.all(2), NONE);
        due(19, "missed(1) found out", y.missed(1), 1);
        due(19, "missed(2) of nobody", y.missed(2), 0);
        due(20, "caught(0)", y.caught(0), 1);
        due(20, "caught(1)", y.caught(1), 0);
        y.minutes(3);
        due(20, "caught(0) behind it", y.caught(0), 1);
        // just at DUE and 'wait', and one minute behind it
        LateMasters z = town("clock c 0;master m 0 10 c;master n 1 10 c;meet e 50;comes m e;comes n e;wait 10;");
        due(19, "missed(0) at the edge", z.missed(0), 2);
        // the last MINUTE is 1999
        LateMasters end = town("clock c 0;master m 0 10 c;meet e 50;comes m e;master n 1 10 c;comes n e;");
        end.move(0, 1989);
        due(17, "comes(0, 0) in 1999", end.comes(0, 0), 1999);
        due(17, "comes(1, 0) in 2000", end.comes(1, 0), NONE);
        end.minutes(999);
        end.minutes(999);
        end.minutes(2);
        due(17, "comes(0, 0) when all is over", end.comes(0, 0), 1999);
        due(17, "comes(1, 0) when all is over", end.comes(1, 0), NONE);
        // a STOPPED CLOCK never READS so much; one that loses does so later
        LateMasters s = town("clock c 0 loses 9;master m 0 1 c;meet e 60;comes m e;");
        due(17, "comes(0, 0) by a slow one", s.comes(0, 0), 70);
        s.stop(0);
        due(17, "comes(0, 0) by a STOPPED one", s.comes(0, 0), NONE);
    }

    private static void plans() {
        LateMasters x = town(TOWN + "meet none 5;");
        due(21, "plan(0, 70)", x.plan(0, 70), 60);
        due(21, "plan(0, 5)", x.plan(0, 5), NONE);
        due(21, "plan(1, 128)", x.plan(1, 128), 100);
        due(21, "plan(1, 127)", x.plan(1, 127), 99);
        due(21, "plan(0, 240)", x.plan(0, 240), 230);
        due(21, "plan(0, 241)", x.plan(0, 241), NONE);
        due(21, "plan(0, -1)", x.plan(0, -1), NONE);
        due(21, "plan(2, 240) of nobody", x.plan(2, 240), NONE);
        due(21, "plan(3, 70)", x.plan(3, 70), NONE);
        due(21, "plan(-1, 70)", x.plan(-1, 70), NONE);
        due(21, "meet(0, 0) stays", x.meet(0, 0), 60);
        x.minutes(66);
        due(21, "plan(0, 70) when one has set out", x.plan(0, 70), NONE);
        LateMasters y = town("clock c 0 fast 50;master m 0 10 c;meet e 20;comes m e;");
        due(21, "plan(0, 0)", y.plan(0, 0), 40);
        y.set(0, 0);
        due(21, "plan(0, 20)", y.plan(0, 20), NONE);
        due(21, "plan(0, 21)", y.plan(0, 21), 1);
        // a CLOCK that loses at the end of its hour READ more ahead of it
        LateMasters l = town("clock c 0 loses 9;master m 0 1 c;meet e 999;comes m e;");
        due(21, "plan(0, 60) by one that loses", l.plan(0, 60), 58);
        LateMasters end = town("clock c 0 fast 99;master m 0 1 c;meet e 999;comes m e;");
        end.move(0, 1999);
        end.minutes(999);
        end.minutes(800);
        due(21, "plan(0, 240) by 1999", end.plan(0, 240), 1999);
        due(21, "plan(0, 100)", end.plan(0, 100), 1997);
        end.minutes(201);
        due(21, "plan(0, 240) at the end", end.plan(0, 240), NONE);
    }

    private static void times() {
        LateMasters x = town(TOWN);
        due(23, "timeFirst() ahead of any", x.timeFirst(), NONE);
        due(24, "look() ahead of any", x.look(), NONE);
        due(22, "time() of ash 2.00", Feeder.time(x, 1, 2, 0), 2);
        due(23, "timeFirst()", x.timeFirst(), 120);
        due(24, "look()", x.look(), 0);
        due(22, "count(4) behind time()", x.count(4), 0);
        due(22, "time() of two that fit", Feeder.time(x, 1, 2, 0, 0, 2, 22), 1);
        due(22, "time() of one MINUTE", Feeder.time(x, 0, 0, 11, 1, 0, 1), 1);
        due(23, "timeFirst() of one MINUTE", x.timeFirst(), 1);
        due(22, "time() of ash 2.00", Feeder.time(x, 1, 2, 0), 2);
        due(22, "time() of two that do not", Feeder.time(x, 1, 0, 0, 1, 0, 1), 0);
        due(23, "timeFirst() behind 0", x.timeFirst(), 120);
        due(22, "no such CLOCK", Feeder.time(x, 3, 0, 0), NONE);
        due(22, "no such hour", Feeder.time(x, 0, 12, 0), NONE);
        due(22, "no such minute", Feeder.time(x, 0, 0, 60), NONE);
        due(22, "two bytes", Feeder.time(x, 0, 0), NONE);
        due(22, "no bytes", x.time(), NONE);
        due(22, "five triples", Feeder.time(x, 1, 11, 59, 1, 11, 59, 1, 11, 59, 1, 11, 59, 1, 11, 59), 2);
        due(23, "timeFirst()", x.timeFirst(), 719);
        due(22, "six triples", Feeder.time(x, 1, 0, 0, 1, 0, 0, 1, 0, 0, 1, 0, 0, 1, 0, 0, 1, 0, 0), NONE);
        due(22, "sixteen bytes", Feeder.time(x, 1, 0, 0, 1, 0, 0, 1, 0, 0, 1, 0, 0, 1, 0, 0, 1), NONE);
        due(22, "a byte above 127", Feeder.time(x, 255, 0, 0), NONE);
        x.minutes(999);
        x.minutes(900);
        due(22, "time() beyond 2000", Feeder.time(x, 1, 9, 20), 2);
        due(23, "timeFirst() beyond 2000", x.timeFirst(), 2000);
        LateMasters y = town("clock a 0;clock b 0 gains 9;clock c 0 gains 9;");
        y.stop(0);
        due(22, "time() by a STOPPED one", Feeder.time(y, 0, 0, 0), 1440);
        due(24, "look() past the STOPPED one", y.look(), 1);
        y.stop(1);
        due(24, "look() is as it was told", y.look(), 1);
        LateMasters alone = town("clock a 0;");
        alone.stop(0);
        due(22, "time() by the only one, STOPPED", Feeder.time(alone, 0, 0, 0), 1440);
        due(24, "look() at the only one", alone.look(), 0);
        Feeder.burgh(y, "clock a 0;");
        due(23, "timeFirst() in another BURGH", y.timeFirst(), 0);
        due(24, "look() in another BURGH", y.look(), 1);
    }

    private static void alikeTendWorst() {
        LateMasters x = town(TOWN);
        due(25, "alike()", x.alike(), NONE);
        due(25, "alike() of none", new LateMasters().alike(), NONE);
        due(25, "alike() of one", town(EARLY).alike(), 0);
        LateMasters y = town("clock a 0 fast 6 loses 2;clock b 0;clock c 0 slow 3 gains 1;");
        due(25, "alike() in 180", y.alike(), 180);
        y.minutes(179);
        due(25, "alike() in 1", y.alike(), 1);
        y.minutes(1);
        due(25, "alike() now", y.alike(), 0);
        y.minutes(60);
        due(25, "alike() never again", y.alike(), NONE);
        LateMasters s = town("clock a 0 slow 1;clock b 0;");
        s.stop(0);
        due(25, "alike() of one that stands at 719", s.alike(), 719);
        s.minutes(720);
        due(25, "alike() next round", s.alike(), 719);
        due(26, "tend(0, 0)", x.tend(0, 0), 16);
        due(26, "tend(2, 0)", x.tend(2, 0), 20);
        due(26, "tend(0, 5)", x.tend(0, 5), 1);
        due(26, "tend(0, 4)", x.tend(0, 4), 16);
        due(26, "tend(0, 10)", x.tend(0, 10), 0);
        due(26, "tend(0, 99)", x.tend(0, 99), 0);
        due(26, "tend(0, 100)", x.tend(0, 100), NONE);
        due(26, "tend(0, -1)", x.tend(0, -1), NONE);
        due(26, "tend(3, 0)", x.tend(3, 0), NONE);
        due(26, "tend(-1, 0)", x.tend(-1, 0), NONE);
        LateMasters t = town("clock a 30 fast 1;clock b 10 fast 1;clock c 20 slow 1;master m 30 1 a;master n 12 1 a;");
        due(26, "tend(0, 0) from the far end", t.tend(0, 0), 20);
        due(26, "tend(1, 0) from between", t.tend(1, 0), 22);
        due(27, "worst()", x.worst(), 0);
        due(27, "worst() of like ones", t.worst(), 0);
        due(27, "worst() of none", new LateMasters().worst(), NONE);
        due(27, "worst() of right ones", town("clock a 0;").worst(), NONE);
        due(27, "worst() behind", town("clock a 0 fast 8;clock b 0 slow 9;").worst(), 1);
    }

    private static void latestAndMean() {
        LateMasters x = town(TOWN);
        due(28, "latest()", x.latest(), NONE);
        due(29, "latestBy() ahead of any", x.latestBy(), NONE);
        dueThrow(30, "mean(0) of nobody", () -> x.mean(0));
        x.minutes(71);
        due(28, "latest() at 71", x.latest(), 1);
        due(29, "latestBy()", x.latestBy(), 10);
        due(30, "mean(0)", x.mean(0), 9);
        due(30, "mean(1)", x.mean(1), 1);
        dueThrow(30, "mean(2)", () -> x.mean(2));
        dueThrow(30, "mean(-1)", () -> x.mean(-1));
        x.minutes(60);
        due(29, "latestBy() as it was told", x.latestBy(), 10);
        due(28, "latest() at 131", x.latest(), 2);
        due(29, "latestBy()", x.latestBy(), 28);
        due(30, "mean(0) at 131: 8, 10, 8 and 28", x.mean(0), 27);
        due(30, "mean(1) at 131", x.mean(1), 2);
        Feeder.burgh(x, EARLY);
        x.minutes(1);
        due(28, "latest() of one in time", x.latest(), NONE);
        due(29, "latestBy() stays", x.latestBy(), 28);
        due(30, "mean(0) of 0", x.mean(0), 0);
        due(30, "mean(1) of 0", x.mean(1), 1);
        // twice 10 behind is no later than once 10 behind
        LateMasters y = town("clock c 0;master k 0 10 c;master l 0 10 c;meet e 5;meet f 9;comes l e;comes l f;comes k e;");
        y.minutes(40);
        due(28, "latest() of like ones", y.latest(), 0);
        due(29, "latestBy() of like ones", y.latestBy(), 10);
    }

    private static void faces() {
        LateMasters x = town(TOWN);
        due(32, "byteAt(0) ahead of any", x.byteAt(0), NONE);
        due(31, "face(0)", x.face(0), 14);
        due(32, "face(0)", Feeder.face(x, 0).equals("dom shows 0.10"), true);
        due(32, "face(2)", Feeder.face(x, 2).equals("elm shows 11.55"), true);
        due(31, "face(3)", x.face(3), NONE);
        due(31, "face(-1)", x.face(-1), NONE);
        due(32, "byteAt(14) of the latest", x.byteAt(14), '5');
        due(32, "byteAt(15)", x.byteAt(15), NONE);
        due(32, "byteAt(-1)", x.byteAt(-1), NONE);
        x.minutes(65);
        x.stop(1);
        due(32, "face(1) STOPPED", Feeder.face(x, 1).equals("ash shows 1.05 stopped"), true);
        Feeder.burgh(x, "clock abcdefg 0 slow 1;");
        due(32, "byteAt(0) in another BURGH", x.byteAt(0), 'a');
        due(32, "byteAt(1) in another BURGH", x.byteAt(1), 's');
        x.stop(0);
        due(32, "the longest", Feeder.face(x, 0).equals("abcdefg shows 11.59 stopped"), true);
    }

    private static int next(int x) {
        return x * 1103515245 + 12345;
    }

    private static int draw(int x, int n) {
        return (x >>> 8) % n;
    }

    private static void drawnHours() {
        due(33, "drawn(0, 1)", town(TOWN).drawn(0, 1), NONE);
        due(33, "drawn(25, 1)", town(TOWN).drawn(25, 1), NONE);
        due(33, "drawn(24, 1)", town(TOWN).drawn(24, 1), 1440);
        for (int seed = -40; seed < 40; seed++) {
            int first = next(seed);
            int second = next(first);
            int third = next(second);
            LateMasters x = town(TOWN);
            due(33, "drawn(1, " + seed + ")", x.drawn(1, seed), 60);
            int[] wrong = {16, 0, -8};
            int stopped = 0;
            if (draw(first, 4) == 0) {
                stopped = 1 << draw(second, 3);
                wrong[draw(second, 3)] = new int[] {10, 0, -5}[draw(second, 3)] - 60;
            } else if (draw(first, 4) == 1) {
                int c = draw(third, 3);
                wrong[c] = -new int[] {20, 10, 5}[draw(second, 3)] + new int[] {6, 0, -3}[c];
            }
            due(33, "now(2) by " + seed, x.now(2), stopped);
            for (int c = 0; c < 3; c++) {
                due(33, "wrong(" + c + ") by " + seed, x.wrong(c), wrong[c]);
            }
        }
        LateMasters end = town(TOWN);
        end.minutes(999);
        end.minutes(951);
        due(33, "drawn(3, 7) at 1950", end.drawn(3, 7), 50);
        due(33, "now(0)", end.now(0), 2000);
        int stopped = end.now(2);
        due(33, "drawn(3, 7) at 2000", end.drawn(3, 7), 0);
        due(33, "now(2) at 2000", end.now(2), stopped);
        due(33, "drawn(2, 1) of nothing", new LateMasters().drawn(2, 1), 120);
        // without MASTERS the draw of 4 is the only one of an hour for 1; the next hour draws on
        for (int seed = 0; seed < 60; seed++) {
            int first = next(seed);
            int second = next(first);
            if (draw(first, 4) == 1 && draw(second, 4) == 0) {
                LateMasters x = town("clock a 0;clock b 0;clock c 0;");
                x.drawn(2, seed);
                due(33, "now(2) without MASTERS", x.now(2), 1 << draw(next(second), 3));
            }
        }
    }

    private static void odds() {
        LateMasters x = town(TOWN);
        due(34, "odds(3, 1, 1)", x.odds(3, 1, 1), NONE);
        due(34, "odds(-1, 1, 1)", x.odds(-1, 1, 1), NONE);
        due(34, "odds(0, 0, 1)", x.odds(0, 0, 1), NONE);
        due(34, "odds(0, 21, 1)", x.odds(0, 21, 1), NONE);
        String risky = "clock c 0 fast 9;clock d 3 gains 9;master m 0 5 c;master n 0 60 d;meet e 200;comes m e;comes n e;"
                + "meet f 333;comes n f;meet g 350;comes m g;comes n g;";
        int seen = 0;
        for (int m = 0; m < 2; m++) {
            int found = 0;
            for (int i = 0; i < 20; i++) {
                LateMasters y = town(risky);
                y.minutes(11);
                y.drawn(6, Integer.MAX_VALUE - 5 + i);
                found += y.master(m, 3);
            }
            LateMasters y = town(risky);
            y.minutes(11);
            due(34, "odds(" + m + ", 20, ..)", y.odds(m, 20, Integer.MAX_VALUE - 5), found);
            due(34, "now(0) stays", y.now(0), 11);
            due(34, "undo() of minutes() alone", y.undo(), 0);
            seen += found;
        }
        due(34, "some are found out", seen > 0, true);
        LateMasters out = town(EARLY);
        out.minutes(1);
        due(34, "odds(0, 20, 3) of one OUT", out.odds(0, 20, 3), 20);
        due(34, "odds(0, 1, 3) of one OUT", out.odds(0, 1, 3), 1);
    }

    private static void books() {
        LateMasters x = town(TOWN);
        due(36, "told(0) ahead of any", x.told(0), NONE);
        due(35, "an empty BOOK", x.book(0), NONE);
        due(36, "told(0)", x.told(0), 0);
        due(36, "told(1)", x.told(1), 0);
        due(35, "book(0)", Feeder.book(x, "stop dom;minute 80;start dom;ann sets dom;move ball 200;", 0), NONE);
        int[] want = {0, 5, 80, 0, NONE};
        for (int what = 0; what < 5; what++) {
            due(36, "told(" + what + ")", x.told(what), want[what]);
        }
        due(36, "told(-1)", x.told(-1), NONE);
        due(35, "now(0) stays", x.now(0), 0);
        due(35, "book(1)", Feeder.book(x, "stop dom;minute 80;start dom;ann sets dom;move ball 200;", 1), NONE);
        due(35, "now(0)", x.now(0), 80);
        due(35, "wrong(0)", x.wrong(0), -20);
        due(35, "meet(1, 0)", x.meet(1, 0), 200);
        dueWrong(x, "stop dom;stop dom;", 1, 11);
        dueWrong(x, "start dom;", 0, 21);
        dueWrong(x, "minute 1;stop elm;bob sets elm;minute 1;", 2, 2);
        dueWrong(x, "move tea 500;", 0, 31);
        dueWrong(x, "move ball 80;", 0, 32);
        dueWrong(x, "move ball 0;", 0, 32);
        dueWrong(x, "move ball 81;minute 1;move ball 81;", 2, 32);
        dueWrong(x, "minute 999;minute 921;minute 1;", 2, 41);
        due(36, "told(2) at the end", x.told(2), 2000);
        due(35, "undo()", x.undo(), 0);
        due(35, "book(1) as far as it goes", Feeder.book(x, "minute 5;stop dom;stop dom;minute 9;", 1), 2);
        due(35, "now(0)", x.now(0), 5);
        due(35, "now(2)", x.now(2), 1);
        due(36, "told(1)", x.told(1), 2);
        due(36, "told(2)", x.told(2), 5);
        Feeder.text(x, "start dom;");
        due(35, "book(2)", x.book(2), -1000);
        due(35, "count(4) behind it", x.count(4), 10);
        due(36, "told(0) behind it", x.told(0), 11);
        due(35, "book(1) of what stayed", x.book(1), NONE);
        due(35, "count(4)", x.count(4), 0);
        LateMasters y = town(EARLY);
        due(35, "book(0) of one found out", Feeder.book(y, "minute 1;m sets c;", 0), 1);
        due(36, "told(0)", y.told(0), 1);
        due(36, "told(3)", y.told(3), 1);
        due(35, "now(1) stays", y.now(1), 0);
        due(35, "a FAULT", Feeder.book(y, "minute 5;m sets f;", 1), -2 - 16);
        due(36, "told(0) behind a FAULT", y.told(0), 1);
        due(35, "now(0) behind a FAULT", y.now(0), 0);
    }

    private static void dueWrong(LateMasters x, String text, int line, int why) {
        due(35, "book(0) of <" + text + ">", Feeder.book(x, text, 0), line);
        due(36, "told(0) of <" + text + ">", x.told(0), why);
        due(36, "told(1) of <" + text + ">", x.told(1), line);
    }

    private static void dueBookFault(String text, int place, int kind) {
        LateMasters x = town(TOWN);
        due(35, "book(1) of <" + text + ">", Feeder.book(x, text, 1), -2 - place);
        due(5, "fault() of <" + text + ">", x.fault(), kind);
        due(35, "now(0) behind <" + text + ">", x.now(0), 0);
        due(35, "count(4) behind <" + text + ">", x.count(4), 0);
    }

    private static void bookFaults() {
        dueBookFault("minute 0;", 7, 2);
        dueBookFault("minute 1000;", 7, 1);
        dueBookFault("minute 1", 8, 1);
        dueBookFault("minute 1;clock dom;", 9, 1);
        dueBookFault("minute 1;dom sets dom;", 9, 3);
        dueBookFault("eve sets dom;", 0, 3);
        dueBookFault("ann stop dom;", 4, 1);
        dueBookFault("ann sets tea;", 9, 3);
        dueBookFault("ann sets sets;", 9, 1);
        dueBookFault("stop ann;", 5, 3);
        dueBookFault("move dom 5;", 5, 3);
        dueBookFault("move tea;", 8, 1);
        dueBookFault("3;", 0, 1);
        String forty = times("minute 1;", 40);
        LateMasters x = town(TOWN);
        due(35, "40 LINES", Feeder.book(x, forty, 0), NONE);
        due(36, "told(1)", x.told(1), 40);
        dueBookFault(forty + "minute 1;", 360, 4);
        dueBookFault(forty + "ann sets dom;", 360, 4);
        dueBookFault(forty + "eve sets dom;", 360, 3);
        dueBookFault(forty + "clock;", 360, 1);
        due(35, "400 bytes", Feeder.book(x, forty + times(" ", 40), 0), NONE);
        dueBookFault(forty + times(" ", 41), 400, 1);
        dueBookFault(times(" ", 398) + "minute 5;", 400, 1);
        dueBookFault(times(" ", 398) + "eve", 398, 3);
    }

    private static void dueSaid(LateMasters x, String text, int ones, int masters) {
        due(37, "sentence() of <" + text + ">", Feeder.sentence(x, text), ones);
        due(38, "said(NONE) of <" + text + ">", x.said(NONE), Integer.bitCount(masters));
        int k = 0;
        for (int m = 0; m < 6; m++) {
            if ((masters >> m & 1) != 0) {
                due(38, "said(" + k + ") of <" + text + ">", x.said(k), m);
                k++;
            }
        }
        due(38, "said(" + k + ") of <" + text + ">", x.said(k), NONE);
        due(38, "said(-2)", x.said(-2), NONE);
    }

    private static void sentences() {
        LateMasters x = town(TOWN);
        due(38, "said(NONE) without one", x.said(NONE), NONE);
        dueSaid(x, "by dom or late < 8", 2, 5);
        dueSaid(x, "not right and to ball", 3, 5);
        dueSaid(x, "not(right and to ball)", 4, 7);
        dueSaid(x, "number=1 or number>1 and number<2", 3, 2);
        dueSaid(x, "(number=1 or number=0) and number=0", 4, 1);
        dueSaid(x, "number = 1 or number = 0 and number = 2", 3, 2);
        dueSaid(x, "not not to tea", 3, 3);
        dueSaid(x, "right", 1, 2);
        dueSaid(x, "to ball and not by dom or not late < 11", 5, 5);
        dueSaid(x, "corner > 4", 1, 4);
        dueSaid(x, "corner = 4", 1, 1);
        dueSaid(x, "corner < 4", 1, 2);
        dueSaid(x, "late > 9", 1, 3);
        dueSaid(x, "late = 010", 1, 2);
        dueSaid(x, "came = 0", 1, 7);
        dueSaid(x, "out", 1, 0);
        dueSaid(x, "going", 1, 0);
        x.minutes(66);
        due(38, "said(0) of going", x.said(0), 0);
        dueSaid(x, "came > 0 or going", 2, 1);
        x.minutes(3);
        dueSaid(x, "came > 0", 1, 1);
        dueSaid(x, "going", 1, 0);
        due(37, "a FAULT", Feeder.sentence(x, "going and"), -1 - 9);
        due(37, "it stays", x.said(NONE), 0);
        Feeder.sentence(x, "out");
        x.minutes(1);
        due(38, "undo() leaves it", x.undo() >= 0 && x.said(NONE) == 0, true);
        LateMasters y = town(EARLY);
        y.minutes(1);
        dueSaid(y, "out", 1, 1);
        due(38, "said() without MASTERS", Feeder.sentence(new LateMasters(), "out"), 1);
    }

    private static void dueSentenceFault(String text, int place, int kind) {
        LateMasters x = town(TOWN);
        due(37, "sentence() of <" + text + ">", Feeder.sentence(x, text), -1 - place);
        due(5, "fault() of <" + text + ">", x.fault(), kind);
        due(37, "count(4) behind <" + text + ">", x.count(4), 0);
        due(38, "said(NONE) behind <" + text + ">", x.said(NONE), NONE);
    }

    private static void sentenceFaults() {
        dueSentenceFault("", 0, 1);
        dueSentenceFault("  ", 2, 1);
        dueSentenceFault("out;", 3, 1);
        dueSentenceFault("out out", 4, 1);
        dueSentenceFault("out )", 4, 1);
        dueSentenceFault("(out", 4, 1);
        dueSentenceFault("()", 1, 1);
        dueSentenceFault("not", 3, 1);
        dueSentenceFault("or out", 0, 1);
        dueSentenceFault("ann", 0, 1);
        dueSentenceFault("stop", 0, 1);
        dueSentenceFault("by tea", 3, 3);
        dueSentenceFault("by foo", 3, 3);
        dueSentenceFault("by by", 3, 1);
        dueSentenceFault("to dom", 3, 3);
        dueSentenceFault("to 5", 3, 1);
        dueSentenceFault("late 5", 5, 1);
        dueSentenceFault("late < x", 7, 1);
        dueSentenceFault("late < 1000", 7, 1);
        LateMasters x = town(TOWN);
        due(37, "20 ONES", Feeder.sentence(x, "out" + times(" or out", 19)), 20);
        dueSentenceFault("out" + times(" or out", 20), 3 + 19 * 7 + 4, 4);
        dueSentenceFault("out" + times(" or out", 19) + " or x", 3 + 19 * 7 + 4, 1);
        due(37, "8 within one another", Feeder.sentence(x, times("not ", 7) + "out"), 8);
        due(37, "8 brackets and one", Feeder.sentence(x, times("(", 7) + "out" + times(")", 7) + "or out"), 9);
        dueSentenceFault(times("not ", 8) + "out", 32, 4);
        dueSentenceFault(times("(", 8) + "out", 8, 4);
        dueSentenceFault(times("(", 9), 8, 4);
        dueSentenceFault(times("(", 8) + "x", 8, 1);
        due(37, "200 bytes", Feeder.sentence(x, "out" + times(" ", 197)), 1);
        dueSentenceFault("out" + times(" ", 198), 200, 1);
        dueSentenceFault(times(" ", 198) + "right", 200, 1);
        dueSentenceFault(times(" ", 198) + "rights", 198, 1);
        dueSentenceFault("out out" + times(" ", 198), 4, 1);
    }

    private static void images() {
        LateMasters x = town(TOWN);
        due(40, "restore(0) of nothing", x.restore(0), false);
        due(40, "restore(2)", x.restore(2), false);
        due(39, "image(2)", x.image(2), false);
        due(39, "image(-1)", x.image(-1), false);
        Feeder.sentence(x, "to ball");
        x.minutes(75);
        x.stop(2);
        due(39, "image(1)", x.image(1), true);
        due(39, "undo() behind an image", x.undo(), 1);
        due(40, "restore(0) of nothing", x.restore(0), false);
        due(39, "undo() behind it", x.undo(), 0);
        x.latest();
        x.face(2);
        Feeder.burgh(x, EARLY);
        x.minutes(9);
        due(39, "image(0)", x.image(0), true);
        Feeder.text(x, "minute 4;");
        due(40, "restore(1)", x.restore(1), true);
        due(40, "undo() behind it", x.undo(), NONE);
        due(40, "count(4)", x.count(4), 9);
        due(40, "count(0)", x.count(0), 3);
        due(40, "now(0)", x.now(0), 75);
        due(40, "now(2)", x.now(2), 4);
        due(40, "meet(0, 3)", x.meet(0, 3), 3);
        due(40, "said(1)", x.said(1), 2);
        due(40, "comes(0, 1)", x.comes(0, 1), 108);
        due(40, "byteAt(0)", x.byteAt(0), 'e');
        due(40, "names", Feeder.face(x, 0).equals("dom shows 1.31"), true);
        due(40, "book(1)", x.book(1), NONE);
        due(40, "restore(1) again", x.restore(1), true);
        due(40, "now(0)", x.now(0), 75);
        due(40, "told(2) stays", x.told(2), 79);
        due(40, "restore(0)", x.restore(0), true);
        due(40, "count(0)", x.count(0), 1);
        due(40, "now(1)", x.now(1), 1);
        due(40, "said(NONE)", x.said(NONE), NONE);
        due(40, "restore(-1)", x.restore(-1), false);
        due(39, "image(1) anew", x.image(1), true);
        due(40, "restore(1) anew", x.restore(1), true);
        due(40, "count(0) anew", x.count(0), 1);
    }

    private static void counts() {
        LateMasters x = town(TOWN + "meet third 3;");
        int[] want = {3, 3, 3, 15, 0, NONE};
        for (int what = 0; what < 6; what++) {
            due(41, "count(" + what + ")", x.count(what), want[what]);
        }
        due(41, "count(-1)", x.count(-1), NONE);
        due(41, "count(3)", town("wait 7;").count(3), 7);
        x.feed(0, 0, 0, 0, 0);
        due(41, "count(4)", x.count(4), 20);
    }
}
