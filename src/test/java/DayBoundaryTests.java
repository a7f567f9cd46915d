/** The boundary cases of the document's part 2: what CLOCKS READ, what is refused, how a MINUTE goes. */
public final class DayBoundaryTests {
    private static final int NONE = LateMasters.NONE;
    /** His CLOCK is 50 minutes ahead, so he comes to e in MINUTE 0, ahead of DUE. */
    private static final String EARLY = "clock c 0 fast 50;master m 0 10 c;meet e 20;comes m e;meet f 90;comes m f;";

    private DayBoundaryTests() {
    }

    public static void main(String[] args) {
        sixtyWholeMinutes();
        sixtyMinutesSinceItWasSet();
        sixtyMinutesSinceItWasStarted();
        stoppedClocks();
        allRoundTheFace();
        stopping();
        starting();
        setting();
        refusedSetting();
        moving();
        refusedMoving();
        theLastMinute();
        readsAsMuch();
        readsAsMuchForOneMinute();
        readsMoreAtTheEndOfItsHour();
        setsOutOnce();
        cornersAway();
        notBehindDue();
        outSetsOutToNone();
        outComesWhereHeHasSetOut();
        meetByMeet();
        manyMinutesAreAsManyTimesOne();
        Check.end("DayBoundaryTests");
    }

    private static void dueWrong(LateMasters x, int minute, int... wrong) {
        Check.pass(x, minute - x.now(0));
        for (int c = 0; c < wrong.length; c++) {
            Check.due("wrong(" + c + ") at " + minute, x.wrong(c), wrong[c]);
        }
    }

    private static void sixtyWholeMinutes() {
        Check.words("or at first, and M more (loses: less) for each 60 whole minutes since then");
        LateMasters x = Check.town("clock a 0 fast 3 gains 9;clock b 0 slow 3 loses 9;clock c 0 gains 1;clock d 0 loses 1;"
                + "clock e 0;clock f 0 fast 99;");
        dueWrong(x, 0, 3, -3, 0, 0, 0, 99);
        dueWrong(x, 1, 3, -3, 0, 0, 0, 99);
        dueWrong(x, 59, 3, -3, 0, 0, 0, 99);
        dueWrong(x, 60, 12, -12, 1, -1, 0, 99);
        dueWrong(x, 61, 12, -12, 1, -1, 0, 99);
        dueWrong(x, 119, 12, -12, 1, -1, 0, 99);
        dueWrong(x, 120, 21, -21, 2, -2, 0, 99);
        dueWrong(x, 1979, 3 + 9 * 32, -3 - 9 * 32, 32, -32, 0, 99);
        dueWrong(x, 1980, 3 + 9 * 33, -3 - 9 * 33, 33, -33, 0, 99);
        dueWrong(x, 2000, 3 + 9 * 33, -3 - 9 * 33, 33, -33, 0, 99);
    }

    private static void sixtyMinutesSinceItWasSet() {
        Check.words("how far it was ahead (below 0: behind) when it was last SET or STARTED, or at first");
        LateMasters x = Check.town("clock a 0 fast 3 gains 9;clock b 0 slow 3 loses 9;master m 0 1 a;master n 0 60 b;");
        dueWrong(x, 59, 3, -3);
        x.set(0, 0);
        x.set(1, 1);
        dueWrong(x, 59, -1, -60);
        dueWrong(x, 60, -1, -60);
        dueWrong(x, 118, -1, -60);
        dueWrong(x, 119, 8, -69);
        x.set(1, 0);
        dueWrong(x, 119, -60, -69);
        dueWrong(x, 178, -60, -69);
        dueWrong(x, 179, -51, -78);
        // SET once more in the same MINUTE: the last counts
        x.set(0, 0);
        x.set(1, 0);
        x.set(0, 0);
        dueWrong(x, 179, -1, -78);
        dueWrong(x, 238, -1, -78);
        dueWrong(x, 239, 8, -87);
    }

    private static void sixtyMinutesSinceItWasStarted() {
        Check.words("it is as far ahead as it is WRONG now, from now on.");
        LateMasters x = Check.town("clock a 0 fast 3 gains 9;clock b 0 slow 3 loses 9;");
        dueWrong(x, 59, 3, -3);
        x.stop(0);
        x.start(0);
        x.stop(1);
        dueWrong(x, 59, 3, -3);
        dueWrong(x, 60, 3, -4);
        dueWrong(x, 118, 3, -62);
        x.start(1);
        dueWrong(x, 118, 3, -62);
        dueWrong(x, 119, 12, -62);
        dueWrong(x, 177, 12, -62);
        dueWrong(x, 178, 12, -71);
        dueWrong(x, 179, 21, -71);
    }

    private static void stoppedClocks() {
        Check.words("one that is STOPPED: what it READ when it was.");
        LateMasters x = Check.town("clock a 0 fast 3 gains 9;clock b 0 slow 3 loses 9;clock c 0;");
        x.stop(2);
        Check.pass(x, 60);
        x.stop(0);
        x.stop(1);
        dueWrong(x, 60, 12, -12, -60);
        Check.due("clock(0, 3)", x.clock(0, 3), 72);
        Check.due("clock(1, 3)", x.clock(1, 3), 48);
        dueWrong(x, 72, 0, -24, -72);
        Check.due("now(3) as one stands right", x.now(3), 1);
        dueWrong(x, 73, -1, -25, -73);
        dueWrong(x, 2000, -1928, -1952, -2000);
        Check.due("clock(0, 3) at 2000", x.clock(0, 3), 72);
        Check.due("clock(1, 3) at 2000", x.clock(1, 3), 48);
        Check.due("clock(2, 3) at 2000", x.clock(2, 3), 0);
        x.start(2);
        dueWrong(x, 2000, -1928, -1952, -2000);
    }

    private static void allRoundTheFace() {
        Check.words("it SHOWS what it READS on a face of 720 minutes (all round, from 0).");
        LateMasters x = Check.town("clock a 0;clock b 0 slow 1;clock c 0 slow 99;clock d 0 fast 99;clock e 0 fast 1;");
        int[] minutes = {0, 1, 98, 99, 620, 621, 718, 719, 720, 721, 1439, 1440, 1999, 2000};
        for (int minute : minutes) {
            Check.pass(x, minute - x.now(0));
            int[] ahead = {0, -1, -99, 99, 1};
            for (int c = 0; c < ahead.length; c++) {
                int shown = minute + ahead[c];
                while (shown < 0) {
                    shown += 720;
                }
                while (shown >= 720) {
                    shown -= 720;
                }
                Check.due("clock(" + c + ", 3) at " + minute, x.clock(c, 3), shown);
            }
        }
        LateMasters y = Check.town("clock b 0 slow 1;clock c 0 slow 99;clock d 0 fast 99;");
        Check.due("clock(0, 3) one behind at 0", y.clock(0, 3), 719);
        Check.due("clock(1, 3) 99 behind at 0", y.clock(1, 3), 621);
        y.stop(0);
        Check.pass(y, 621);
        Check.due("clock(2, 3) at 621", y.clock(2, 3), 0);
        Check.due("clock(0, 3) STOPPED below 0", y.clock(0, 3), 719);
        Check.due("wrong(0) STOPPED below 0", y.wrong(0), -622);
    }

    private static void stopping() {
        Check.words("To STOP a CLOCK: why not: 1 it is STOPPED.");
        LateMasters x = Check.town("clock a 0;clock b 0;clock c 0;clock d 0;clock e 0;clock f 0;");
        for (int c = 0; c < 6; c++) {
            Check.due("stop(" + c + ")", x.stop(c), 0);
            Check.due("now(2)", x.now(2), (2 << c) - 1);
        }
        x.minutes(7);
        for (int c = 0; c < 6; c++) {
            Check.due("stop(" + c + ") again", x.stop(c), 1);
            Check.due("wrong(" + c + ") is as it was", x.wrong(c), -7);
        }
        Check.due("undo() of minutes(), then of the sixth stop()", x.undo(), 6);
        Check.due("undo()", x.undo(), 5);
        Check.due("stop(5) undone", x.stop(5), 0);
        x.start(5);
        Check.due("stop(5) behind a START", x.stop(5), 0);
    }

    private static void starting() {
        Check.words("To START it: 1 it is not");
        LateMasters x = Check.town("clock a 0 fast 4 gains 2;clock b 0;");
        Check.due("start(0)", x.start(0), 1);
        x.stop(0);
        Check.due("start(1) of another", x.start(1), 1);
        x.minutes(30);
        Check.due("start(0)", x.start(0), 0);
        Check.due("now(2)", x.now(2), 0);
        x.minutes(45);
        Check.due("start(0) again", x.start(0), 1);
        Check.due("wrong(0) is as it was", x.wrong(0), -26);
        x.minutes(15);
        Check.due("wrong(0) 60 behind the START that was done", x.wrong(0), -24);
    }

    private static void setting() {
        Check.words("it is as many minutes behind as he must be LATE, from now on.");
        LateMasters x = Check.town("clock a 0 fast 99;clock b 30 loses 9;master m 0 60 a;master n 30 1 a;");
        Check.due("set(0, 0)", x.set(0, 0), 0);
        Check.due("wrong(0) by LATE 60", x.wrong(0), -60);
        Check.due("clock(0, 3) below 0", x.clock(0, 3), 660);
        Check.due("set(1, 0)", x.set(1, 0), 0);
        Check.due("wrong(0) by LATE 1", x.wrong(0), -1);
        Check.due("clock(0, 3) below 0", x.clock(0, 3), 719);
        // one by which he does not go, at another CORNER
        Check.due("set(1, 1)", x.set(1, 1), 0);
        Check.due("wrong(1)", x.wrong(1), -1);
        Check.pass(x, 2000);
        Check.due("set(0, 1) at 2000", x.set(0, 1), 0);
        Check.due("wrong(1) at 2000", x.wrong(1), -60);
    }

    private static void refusedSetting() {
        Check.words("To SET it (a MASTER): why not, the least: 1 he is OUT; 2 it is STOPPED");
        LateMasters x = Check.town(EARLY + "clock d 0;master n 0 7 d;");
        x.stop(1);
        Check.due("set(0, 1) STOPPED", x.set(0, 1), 2);
        Check.due("set(1, 1) STOPPED", x.set(1, 1), 2);
        x.minutes(1);
        Check.due("set(0, 0) OUT", x.set(0, 0), 1);
        Check.due("set(0, 1) OUT and STOPPED", x.set(0, 1), 1);
        Check.due("set(1, 1) STOPPED", x.set(1, 1), 2);
        Check.due("wrong(0) is as it was", x.wrong(0), 50);
        Check.due("wrong(1) is as it was", x.wrong(1), -1);
        Check.due("set(1, 0)", x.set(1, 0), 0);
        Check.due("wrong(0)", x.wrong(0), -7);
        Check.due("undo() of it", x.undo(), 2);
    }

    private static void moving() {
        Check.words("that MINUTE is not behind this one: it is DUE then.");
        LateMasters x = Check.town("clock c 0;master m 0 1 c;meet e 9;comes m e;meet f 0;");
        Check.due("move(0, 0) at 0", x.move(0, 0), 2);
        Check.due("meet(0, 0)", x.meet(0, 0), 9);
        Check.due("move(0, 1) at 0", x.move(0, 1), 0);
        Check.due("meet(0, 0)", x.meet(0, 0), 1);
        Check.due("move(0, 1999) at 0", x.move(0, 1999), 0);
        Check.due("meet(0, 0)", x.meet(0, 0), 1999);
        Check.due("meet(1, 0)", x.meet(1, 0), 0);
        x.minutes(500);
        Check.due("move(0, 499) at 500", x.move(0, 499), 2);
        Check.due("move(0, 500) at 500", x.move(0, 500), 2);
        Check.due("move(0, 501) at 500", x.move(0, 501), 0);
        Check.due("move(1, 501) of one whose DUE is over", x.move(1, 501), 0);
        Check.due("comes(0, 0)", x.comes(0, 0), 502);
        x.move(0, 1999);
        Check.pass(x, 1498);
        Check.due("move(0, 1999) at 1998", x.move(0, 1999), 0);
        x.minutes(1);
        Check.due("move(0, 1999) at 1999", x.move(0, 1999), 2);
        x.minutes(1);
        Check.due("move(0, 1999) at 2000", x.move(0, 1999), 2);
        Check.due("meet(0, 0)", x.meet(0, 0), 1999);
    }

    private static void refusedMoving() {
        Check.words("To MOVE a MEET to a MINUTE: 1 somebody has set out to it; 2");
        LateMasters x = Check.town("clock c 0;master k 0 60 c;master m 5 1 c;meet e 9;comes m e;comes k e;meet f 9;");
        x.minutes(10);
        Check.due("move(0, 10) ahead of setting out", x.move(0, 10), 2);
        x.minutes(1);
        Check.due("meet(0, 2)", x.meet(0, 2), 2);
        Check.due("meet(0, 3)", x.meet(0, 3), 0);
        Check.due("move(0, 99) when one has set out", x.move(0, 99), 1);
        Check.due("move(0, 11) when one has set out", x.move(0, 11), 1);
        Check.due("move(0, 0) when one has set out", x.move(0, 0), 1);
        Check.due("move(1, 12) of another", x.move(1, 12), 0);
        x.minutes(5);
        Check.due("meet(0, 3)", x.meet(0, 3), 2);
        Check.due("move(0, 99) when he has come", x.move(0, 99), 1);
        Check.due("meet(0, 0)", x.meet(0, 0), 9);
        Check.due("undo()", x.undo(), 3);
        Check.due("undo() of move(1, 12)", x.undo(), 2);
        Check.due("undo() of setting out", x.undo(), 1);
        Check.due("move(0, 99) when that is undone", x.move(0, 99), 0);
    }

    private static void theLastMinute() {
        Check.words("A MINUTE (0 to 1999; 2000: all are over) goes");
        LateMasters x = Check.town("clock c 0;master m 0 1 c;meet e 9;comes m e;master n 1 1 c;comes n e;");
        x.move(0, 1998);
        Check.pass(x, 1999);
        Check.due("now(0)", x.now(0), 1999);
        Check.due("meet(0, 2) ahead of MINUTE 1999", x.meet(0, 2), 0);
        Check.due("comes(0, 0)", x.comes(0, 0), 1999);
        Check.due("comes(1, 0)", x.comes(1, 0), NONE);
        Check.due("minutes(2)", x.minutes(2), 1);
        Check.due("now(0)", x.now(0), 2000);
        Check.due("meet(0, 2)", x.meet(0, 2), 3);
        Check.due("meet(0, 3)", x.meet(0, 3), 1);
        Check.due("minutes(1)", x.minutes(1), 0);
        Check.due("minutes(999)", x.minutes(999), 0);
        Check.due("drawn(24, 5)", x.drawn(24, 5), 0);
        Check.due("now(0)", x.now(0), 2000);
        Check.due("meet(0, 3)", x.meet(0, 3), 1);
        Check.due("undo() of the last MINUTE", x.undo(), 4);
        Check.due("now(0)", x.now(0), 1999);
        // DUE in MINUTE 1999 is found out there, DUE and LATE in MINUTE 2000 never come
        LateMasters y = Check.town("clock c 0 fast 1;clock d 0;master m 0 1 c;meet e 9;comes m e;master n 0 1 d;comes n e;");
        y.move(0, 1999);
        Check.pass(y, 2000);
        Check.due("meet(0, 3) of DUE 1999", y.meet(0, 3), 1);
        Check.due("now(1)", y.now(1), 1);
    }

    private static void readsAsMuch() {
        Check.words("his CLOCK READS as much as DUE and his LATE, or more, he sets out");
        LateMasters x = Check.town("clock c 0;clock d 0 fast 2;clock k 0 gains 9;master m 9 5 c;master n 9 5 d;master o 9 5 k;"
                + "meet e 50;comes m e;comes n e;comes o e;meet f 60;comes o f;");
        x.minutes(53);
        Check.due("meet(0, 2) behind MINUTE 52", x.meet(0, 2), 0);
        x.minutes(1);
        Check.due("meet(0, 2) behind MINUTE 53", x.meet(0, 2), 2);
        x.minutes(1);
        Check.due("meet(0, 2) behind MINUTE 54", x.meet(0, 2), 2);
        x.minutes(1);
        Check.due("meet(0, 2) behind MINUTE 55", x.meet(0, 2), 7);
        // from 59 to 69 in one minute: 65 is passed over
        x.minutes(4);
        Check.due("meet(1, 2) behind MINUTE 59", x.meet(1, 2), 0);
        x.minutes(1);
        Check.due("meet(1, 2) behind MINUTE 60", x.meet(1, 2), 4);
        // DUE 0 and LATE 1, in MINUTE 0
        LateMasters y = Check.town("clock c 0 fast 1;master m 0 1 c;master n 0 2 c;meet e 0;comes m e;comes n e;");
        y.minutes(1);
        Check.due("meet(0, 2) behind MINUTE 0", y.meet(0, 2), 1);
        Check.due("now(1) of one who comes at DUE 0", y.now(1), 1);
        y.minutes(1);
        Check.due("meet(0, 2) behind MINUTE 1", y.meet(0, 2), 3);
        Check.due("now(1) of one who comes in MINUTE 1", y.now(1), 1);
        // DUE 999 and LATE 60 by a CLOCK 99 behind that loses 9
        LateMasters z = Check.town("clock c 0 slow 99 loses 9;master m 30 60 c;meet e 999;comes m e;");
        int minute = 0;
        while (minute - 99 - 9 * (minute / 60) < 1059) {
            minute++;
        }
        Check.due("comes(0, 0)", z.comes(0, 0), minute + 30);
        Check.pass(z, minute);
        Check.due("meet(0, 2) ahead of it", z.meet(0, 2), 0);
        z.minutes(1);
        Check.due("meet(0, 2) behind it", z.meet(0, 2), 1);
    }

    private static void readsAsMuchForOneMinute() {
        Check.words("his CLOCK READS as much as DUE and his LATE, or more, he sets out");
        // it READS 59 in MINUTE 59, 51 in MINUTE 60, 59 again in MINUTE 68 and 60 in MINUTE 69
        LateMasters x = Check.town("clock c 0 loses 9;master m 0 1 c;meet e 58;comes m e;meet f 59;comes m f;");
        Check.due("comes(0, 0)", x.comes(0, 0), 59);
        Check.due("comes(0, 1)", x.comes(0, 1), 69);
        Check.due("plan(0, 58)", x.plan(0, 58), 57);
        Check.due("plan(0, 59)", x.plan(0, 59), 58);
        Check.due("plan(0, 68)", x.plan(0, 68), 58);
        Check.due("plan(0, 69)", x.plan(0, 69), 59);
        // STOPPED, it READS as much for ever
        x.minutes(59);
        x.stop(0);
        Check.due("comes(0, 0) by one STOPPED at 59", x.comes(0, 0), 59);
        Check.due("comes(0, 1) by one STOPPED at 59", x.comes(0, 1), NONE);
        x.undo();
        x.minutes(1);
        Check.due("meet(0, 2)", x.meet(0, 2), 1);
        x.minutes(9);
        Check.due("meet(1, 2)", x.meet(1, 2), 0);
        x.minutes(1);
        Check.due("meet(1, 2)", x.meet(1, 2), 1);
    }

    private static void readsMoreAtTheEndOfItsHour() {
        Check.words("and M more (loses: less) for each 60 whole minutes since then");
        // it would READ 65 in MINUTE 65, but gains 9 in MINUTE 60: asked for from each MINUTE ahead of that
        for (int minute = 0; minute <= 60; minute++) {
            LateMasters x = Check.town("clock c 0 gains 9;master m 0 1 c;meet e 64;comes m e;");
            Check.pass(x, minute);
            Check.due("comes(0, 0) at " + minute, x.comes(0, 0), 60);
            x.minutes(60 - minute);
            Check.due("meet(0, 2) ahead of MINUTE 60", x.meet(0, 2), 0);
            x.minutes(1);
            Check.due("meet(0, 2) behind MINUTE 60", x.meet(0, 2), 1);
        }
        // SET 60 behind in MINUTE 7, it READS 67 - 60 + 9 = 16 in MINUTE 67, by which DUE could be 15, if that is ahead
        for (int minute = 7; minute <= 67; minute++) {
            LateMasters x = Check.town("clock c 0 gains 9;master m 0 60 c;master n 0 1 c;meet e 14;comes n e;");
            x.minutes(7);
            x.set(0, 0);
            Check.pass(x, minute - 7);
            Check.due("comes(1, 0) at " + minute, x.comes(1, 0), 67);
            Check.due("plan(0, " + (67 - minute) + ") at " + minute, x.plan(0, 67 - minute), minute < 15 ? 15 : NONE);
        }
        // one that loses 9 in MINUTE 60 READS 59 in MINUTE 59 and again in MINUTE 68, 60 in MINUTE 69
        for (int minute = 0; minute <= 69; minute++) {
            LateMasters x = Check.town("clock c 0 loses 9;master m 0 1 c;meet e 59;comes m e;");
            Check.pass(x, minute);
            Check.due("comes(0, 0) at " + minute, x.comes(0, 0), 69);
        }
    }

    private static void setsOutOnce() {
        Check.words("if he is not OUT, has not set out to it");
        LateMasters x = Check.town("clock c 0;master m 10 1 c;meet e 9;comes m e;");
        x.minutes(11);
        Check.due("meet(0, 2)", x.meet(0, 2), 1);
        // SET back, it READS as much a second time; he comes by the first
        x.set(0, 0);
        Check.due("comes(0, 0)", x.comes(0, 0), 20);
        x.minutes(10);
        Check.due("meet(0, 3) at 21", x.meet(0, 3), 1);
        for (int i = 0; i < 20; i++) {
            x.minutes(1);
        }
        Check.due("now(4)", x.now(4), 1);
        Check.due("now(5)", x.now(5), 11);
        Check.due("comes(0, 0) that was", x.comes(0, 0), 20);
    }

    private static void cornersAway() {
        Check.words("if he set out CORNER minutes ago (0: now), he has come to it in this MINUTE");
        LateMasters x = Check.town("clock c 0;master k 0 1 c;master l 1 1 c;master m 2 1 c;master n 30 1 c;meet e 9;"
                + "comes k e;comes l e;comes m e;comes n e;");
        Check.due("comes(0, 0)", x.comes(0, 0), 10);
        Check.due("comes(1, 0)", x.comes(1, 0), 11);
        Check.due("comes(2, 0)", x.comes(2, 0), 12);
        Check.due("comes(3, 0)", x.comes(3, 0), 40);
        x.minutes(10);
        Check.due("meet(0, 2) behind MINUTE 9", x.meet(0, 2), 0);
        x.minutes(1);
        Check.due("meet(0, 2) behind MINUTE 10", x.meet(0, 2), 15);
        Check.due("meet(0, 3) behind MINUTE 10", x.meet(0, 3), 1);
        x.minutes(1);
        Check.due("meet(0, 3) behind MINUTE 11", x.meet(0, 3), 3);
        x.minutes(1);
        Check.due("meet(0, 3) behind MINUTE 12", x.meet(0, 3), 7);
        x.minutes(27);
        Check.due("meet(0, 3) behind MINUTE 39", x.meet(0, 3), 7);
        x.minutes(1);
        Check.due("meet(0, 3) behind MINUTE 40", x.meet(0, 3), 15);
        // a CLOCK that is STOPPED or SET behind it keeps nobody who has set out
        LateMasters y = Check.town("clock c 0;master n 30 1 c;meet e 9;comes n e;");
        y.minutes(11);
        y.stop(0);
        Check.due("comes(0, 0) by a STOPPED CLOCK", y.comes(0, 0), 40);
    }

    private static void notBehindDue() {
        Check.words("if that is not behind DUE, he is OUT");
        // set out in MINUTE 0 all: they come in MINUTES 0, 19, 20, 21 to DUE 20
        LateMasters x = Check.town("clock c 0 fast 90;master k 0 1 c;master l 19 1 c;master m 20 1 c;master n 21 1 c;"
                + "meet e 20;comes k e;comes l e;comes m e;comes n e;");
        Check.due("caught(0)", x.caught(0), 7);
        x.minutes(1);
        Check.due("now(1) behind MINUTE 0", x.now(1), 1);
        x.minutes(18);
        Check.due("now(1) behind MINUTE 18", x.now(1), 1);
        x.minutes(1);
        Check.due("now(1) behind MINUTE 19", x.now(1), 3);
        x.minutes(1);
        Check.due("now(1) behind MINUTE 20", x.now(1), 7);
        x.minutes(1);
        Check.due("now(1) behind MINUTE 21", x.now(1), 7);
        Check.due("meet(0, 3)", x.meet(0, 3), 15);
        Check.due("now(4)", x.now(4), 4);
        Check.due("now(5)", x.now(5), 1);
        Check.due("caught(0) behind it", x.caught(0), 7);
    }

    private static void outSetsOutToNone() {
        Check.words("(found out: he sets out to none any more; where he has set out to he comes)");
        LateMasters x = Check.town(EARLY);
        Check.due("comes(0, 1)", x.comes(0, 1), NONE);
        x.minutes(999);
        Check.due("master(0, 3)", x.master(0, 3), 1);
        Check.due("master(0, 5)", x.master(0, 5), 1);
        Check.due("move(1, 1500) of the other", x.move(1, 1500), 0);
        Check.due("comes(0, 1)", x.comes(0, 1), NONE);
        x.undo();
        Check.due("undo() of being found out", x.undo(), 0);
        Check.due("master(0, 3) undone", x.master(0, 3), 0);
        Check.due("set(0, 0) ahead of it", x.set(0, 0), 0);
        Check.due("comes(0, 0) by his CLOCK as SET", x.comes(0, 0), 40);
        Check.due("comes(0, 1) by his CLOCK as SET", x.comes(0, 1), 110);
    }

    private static void outComesWhereHeHasSetOut() {
        Check.words("where he has set out to he comes)");
        // to f he sets out in MINUTE 4, at e he is found out in MINUTE 5, to g he would set out in MINUTE 5, to h later
        LateMasters x = Check.town("clock c 0 fast 50;master m 5 1 c;meet e 20;meet f 53;meet g 54;meet h 60;"
                + "comes m e;comes m f;comes m g;comes m h;");
        Check.due("comes(0, 0)", x.comes(0, 0), 5);
        Check.due("comes(0, 1)", x.comes(0, 1), 9);
        Check.due("comes(0, 2)", x.comes(0, 2), NONE);
        Check.due("comes(0, 3)", x.comes(0, 3), NONE);
        x.minutes(6);
        Check.due("now(1)", x.now(1), 1);
        Check.due("master(0, 5)", x.master(0, 5), 3);
        Check.due("master(0, 6)", x.master(0, 6), 1);
        x.minutes(3);
        Check.due("master(0, 6) behind MINUTE 8", x.master(0, 6), 1);
        x.minutes(1);
        Check.due("master(0, 6) behind MINUTE 9", x.master(0, 6), 3);
        Check.due("now(4)", x.now(4), 2);
        Check.due("comes(0, 1) that was", x.comes(0, 1), 9);
        Check.due("missed(2)", x.missed(2), 1);
    }

    private static void meetByMeet() {
        Check.words("MEET by MEET, MASTER by MASTER who is to come to it");
        // all in MINUTE 0: found out at e, he does not set out to f, told behind it
        LateMasters x = Check.town("clock c 0 fast 90;master m 0 1 c;meet e 20;meet f 30;comes m f;comes m e;");
        x.minutes(1);
        Check.due("master(0, 5)", x.master(0, 5), 1);
        LateMasters v = Check.town("clock c 0 fast 20;master m 0 1 c;meet e 0;meet f 5;comes m f;comes m e;");
        v.minutes(1);
        Check.due("master(0, 5) of DUE 0, found out there", v.master(0, 5), 1);
        // to e he sets out in MINUTE 5, ahead of f, told behind it, to which he comes in MINUTE 5
        LateMasters y = Check.town("clock c 0 fast 50;master m 5 1 c;meet e 54;meet f 20;comes m f;comes m e;");
        Check.due("comes(0, 0)", y.comes(0, 0), 10);
        y.minutes(6);
        Check.due("now(1)", y.now(1), 1);
        Check.due("master(0, 5)", y.master(0, 5), 3);
        Check.due("master(0, 6)", y.master(0, 6), 2);
        // another MASTER goes on
        LateMasters z = Check.town("clock c 0 fast 90;master m 0 1 c;master n 0 60 c;meet e 20;meet f 30;comes m e;comes m f;"
                + "comes n f;");
        z.minutes(1);
        Check.due("meet(0, 2)", z.meet(0, 2), 1);
        Check.due("meet(1, 2)", z.meet(1, 2), 2);
        Check.due("now(1)", z.now(1), 3);
        // who is not to come to a MEET does not set out to it
        LateMasters w = Check.town("clock c 0 fast 90;master m 0 1 c;meet e 20;meet f 30;comes m f;");
        w.minutes(1);
        Check.due("meet(0, 2)", w.meet(0, 2), 0);
        Check.due("meet(1, 2)", w.meet(1, 2), 1);
    }

    private static void manyMinutesAreAsManyTimesOne() {
        Check.words("It is the next MINUTE.");
        String text = "clock a 0 fast 30 loses 9;clock b 0 slow 9 gains 9;clock c 0;master m 9 5 a;master n 0 9 b;master o 30 60 c;"
                + "meet e 60;meet f 119;meet g 333;comes m e;comes n e;comes o e;comes n f;comes m f;comes o g;comes n g;";
        LateMasters one = Check.town(text);
        LateMasters many = Check.town(text);
        int[] steps = {1, 58, 1, 1, 59, 60, 61, 120, 7, 999, 633};
        for (int step : steps) {
            Check.due("minutes(" + step + ")", many.minutes(step), step);
            for (int i = 0; i < step; i++) {
                one.minutes(1);
            }
            Check.due("now(0)", many.now(0), one.now(0));
            for (int what = 1; what < 6; what++) {
                Check.due("now(" + what + ") at " + many.now(0), many.now(what), one.now(what));
            }
            for (int e = 0; e < 3; e++) {
                Check.due("meet(" + e + ", 2) at " + many.now(0), many.meet(e, 2), one.meet(e, 2));
                Check.due("meet(" + e + ", 3) at " + many.now(0), many.meet(e, 3), one.meet(e, 3));
                Check.due("all(" + e + ") at " + many.now(0), many.all(e), one.all(e));
            }
        }
        Check.due("now(0) at the end", many.now(0), 2000);
    }
}
