/** The boundary cases of the document's part 3: what would go on, PLAN, TIME, ALIKE, TEND, FACE, DRAWN and fractions. */
public final class ForesightBoundaryTests {
    private static final int NONE = LateMasters.NONE;
    private static final String ONE = "clock c 0;master m 0 1 c;meet e 9;comes m e;";
    /** His CLOCK is 50 minutes ahead, so he comes to e in MINUTE 0, ahead of DUE. */
    private static final String EARLY = "clock c 0 fast 50;master m 0 10 c;meet e 20;comes m e;meet f 90;comes m f;";

    private ForesightBoundaryTests() {
    }

    public static void main(String[] args) {
        ifNothingElseIsDone();
        comesOrCame();
        theLastOfAll();
        missedByDueAndWait();
        caughtAtDue();
        dueAsItIsNow();
        outAndNotSetOut();
        planOfNMinutes();
        planOfTheGreatestDue();
        planOfOneThatCanBeMoved();
        planAndTheOthers();
        oneToFiveTriples();
        hoursAndMinutesShown();
        thisMinuteAndThoseBehindIt();
        noEndForTime();
        lookAtTheFirstOfLikeOnes();
        lookForTheLeast();
        alikeFrom0To1439();
        tendOfMoreThanN();
        tendAlongTheStreet();
        worstOfLikeOnes();
        latestOfLikeOnes();
        latestNotBehindDue();
        facesOfClocks();
        drawsWrap();
        hoursAsLongAsMinutesAreLeft();
        drawnStopsAndStarts();
        drawnSetsIfHeCan();
        noMoreDraws();
        fractions();
        aNewBurgh();
        Check.end("ForesightBoundaryTests");
    }

    private static void ifNothingElseIsDone() {
        Check.words("All by what would go on, if nothing else is done.");
        LateMasters x = Check.town(EARLY);
        x.comes(0, 0);
        x.all(0);
        x.missed(0);
        x.caught(0);
        x.plan(0, 240);
        x.odds(0, 20, 1);
        x.alike();
        Check.due("now(0) behind all of these", x.now(0), 0);
        Check.due("now(1)", x.now(1), 0);
        Check.due("meet(0, 0)", x.meet(0, 0), 20);
        Check.due("meet(0, 2)", x.meet(0, 2), 0);
        Check.due("now(2)", x.now(2), 0);
        Check.due("wrong(0)", x.wrong(0), 50);
        Check.due("undo()", x.undo(), NONE);
    }

    private static void comesOrCame() {
        Check.words("COMES: the MINUTE in which a MASTER comes to a MEET (or came).");
        LateMasters x = Check.town(ONE + "master n 30 60 c;comes n e;");
        for (int minute : new int[] {0, 9, 10, 11, 68, 69, 70, 98, 99, 100, 1999, 2000}) {
            Check.pass(x, minute - x.now(0));
            Check.due("comes(0, 0) at " + minute, x.comes(0, 0), 10);
            Check.due("comes(1, 0) at " + minute, x.comes(1, 0), 99);
            Check.due("all(0) at " + minute, x.all(0), 99);
        }
        // the last MINUTE in which one can come
        LateMasters y = Check.town(ONE + "master n 1 1 c;comes n e;");
        y.move(0, 1998);
        Check.due("comes(0, 0)", y.comes(0, 0), 1999);
        Check.due("comes(1, 0)", y.comes(1, 0), NONE);
        y.move(0, 1997);
        Check.due("comes(1, 0)", y.comes(1, 0), 1999);
        y.move(0, 1999);
        Check.due("comes(0, 0)", y.comes(0, 0), NONE);
        // MINUTE 0
        Check.due("comes(0, 0) in MINUTE 0", Check.town(EARLY).comes(0, 0), 0);
    }

    private static void theLastOfAll() {
        Check.words("ALL of a MEET: the MINUTE in which the last of those who are to come to it comes.");
        String two = "clock c 0;master k 9 1 c;master l 0 1 c;meet e 9;meet f 9;meet g 9;comes k e;comes l e;comes l f;";
        LateMasters x = Check.town(two);
        Check.due("all(0), the first told comes last", x.all(0), 19);
        Check.due("all(1) of one", x.all(1), 10);
        Check.due("all(2) of nobody", x.all(2), NONE);
        x.minutes(11);
        x.stop(0);
        Check.due("all(0) when one came and one has set out", x.all(0), 19);
        x.undo();
        x.undo();
        x.stop(0);
        Check.due("all(0) by a STOPPED CLOCK", x.all(0), NONE);
        LateMasters y = Check.town("clock c 0;clock d 0;master k 9 1 c;master l 0 1 d;meet e 9;comes k e;comes l e;");
        y.stop(0);
        Check.due("all(0) when the first does not come", y.all(0), NONE);
        y.start(0);
        y.stop(1);
        Check.due("all(0) when the last does not come", y.all(0), NONE);
        Check.due("all(0) in MINUTE 0", Check.town(EARLY).all(0), 0);
    }

    private static void missedByDueAndWait() {
        Check.words("MISSED of a MEET: who is to come to it and does not (or did not) by DUE and 'wait'.");
        // they come in MINUTES 10, 24, 25 to DUE 9; the last is not to come
        String text = "clock c 0;master k 0 1 c;master l 14 1 c;master m 15 1 c;master n 30 60 c;meet e 9;"
                + "comes k e;comes l e;comes m e;";
        Check.due("missed(0) of wait 0", Check.town(text + "wait 0;").missed(0), 7);
        Check.due("missed(0) of wait 1", Check.town(text + "wait 1;").missed(0), 6);
        Check.due("missed(0) of wait 14", Check.town(text + "wait 14;").missed(0), 6);
        Check.due("missed(0) of wait 15", Check.town(text + "wait 15;").missed(0), 4);
        Check.due("missed(0) of 15 without", Check.town(text).missed(0), 4);
        Check.due("missed(0) of wait 16", Check.town(text + "wait 16;").missed(0), 0);
        // 90 and 91 minutes behind DUE at most: both by 'wait' 99
        String latest = "clock c 0;master k 30 60 c;meet e 9;comes k e;wait ";
        Check.due("missed(0) of wait 89", Check.town(latest + "89;").missed(0), 1);
        Check.due("missed(0) of wait 90", Check.town(latest + "90;").missed(0), 0);
        Check.due("missed(0) of wait 99", Check.town(latest + "99;").missed(0), 0);
        // it is the same behind it
        LateMasters x = Check.town(text);
        Check.pass(x, 2000);
        Check.due("missed(0) at 2000", x.missed(0), 4);
        // who comes ahead of DUE is not missed; who is found out is, elsewhere
        Check.due("missed(0) of one too early", Check.town(EARLY).missed(0), 0);
        Check.due("missed(1) of one found out", Check.town(EARLY).missed(1), 1);
        // DUE and 'wait' may lie behind the last MINUTE
        LateMasters y = Check.town(ONE + "wait 99;");
        y.move(0, 1998);
        Check.due("missed(0) of DUE 1998", y.missed(0), 0);
        y.move(0, 1999);
        Check.due("missed(0) of DUE 1999", y.missed(0), 1);
    }

    private static void caughtAtDue() {
        Check.words("CAUGHT of a MEET: who comes (or came) to it not behind DUE.");
        // they come in MINUTES 0, 19, 20, 21, the last never
        String text = "clock c 0 fast 90;clock d 0;master k 0 1 c;master l 19 1 c;master m 20 1 c;master n 21 1 c;master o 0 1 d;"
                + "meet e 20;comes k e;comes l e;comes m e;comes n e;comes o e;meet f 5;";
        LateMasters x = Check.town(text);
        x.stop(1);
        for (int minute : new int[] {0, 1, 20, 21, 22, 2000}) {
            Check.pass(x, minute - x.now(0));
            Check.due("caught(0) at " + minute, x.caught(0), 7);
        }
        Check.due("caught(1) of nobody", x.caught(1), 0);
    }

    private static void dueAsItIsNow() {
        Check.words("(DUE as it is now; who is OUT and has not set out does not come.)");
        LateMasters x = Check.town("clock c 0 fast 30;master k 20 1 c;meet e 20;comes k e;wait 5;");
        Check.due("caught(0) of DUE 20", x.caught(0), 1);
        Check.due("missed(0) of DUE 20", x.missed(0), 0);
        x.move(0, 19);
        Check.due("caught(0) of DUE 19", x.caught(0), 0);
        Check.due("missed(0) of DUE 19", x.missed(0), 0);
        x.move(0, 14);
        Check.due("missed(0) of DUE 14", x.missed(0), 1);
        x.move(0, 15);
        Check.due("missed(0) of DUE 15", x.missed(0), 0);
        x.undo();
        Check.due("missed(0) of DUE 14", x.missed(0), 1);
    }

    private static void outAndNotSetOut() {
        Check.words("who is OUT and has not set out does not come.)");
        LateMasters x = Check.town(EARLY);
        x.minutes(1);
        Check.due("comes(0, 0) of one OUT", x.comes(0, 0), 0);
        Check.due("comes(0, 1) of one OUT", x.comes(0, 1), NONE);
        Check.due("all(1)", x.all(1), NONE);
        Check.due("missed(1)", x.missed(1), 1);
        Check.due("caught(1)", x.caught(1), 0);
        Check.due("plan(1, 240)", x.plan(1, 240), NONE);
    }

    private static void planOfNMinutes() {
        Check.words("PLAN of a MEET for n: the greatest DUE (1999 at most), to which it could be MOVED now, by which ALL of it would be n minutes from now, at most.");
        LateMasters x = Check.town(ONE);
        Check.due("plan(0, 0)", x.plan(0, 0), NONE);
        Check.due("plan(0, 1)", x.plan(0, 1), NONE);
        Check.due("plan(0, 2)", x.plan(0, 2), 1);
        Check.due("plan(0, 3)", x.plan(0, 3), 2);
        Check.due("plan(0, 239)", x.plan(0, 239), 238);
        Check.due("plan(0, 240)", x.plan(0, 240), 239);
        Check.due("plan(0, 241)", x.plan(0, 241), NONE);
        Check.due("plan(0, -1)", x.plan(0, -1), NONE);
        // as planned, so it is; one minute later it is not
        for (int n : new int[] {2, 3, 50, 100, 240}) {
            LateMasters y = Check.town("clock c 0 fast 9 gains 2;clock d 0 loses 3;master m 7 20 c;master n 0 1 d;meet e 900;"
                    + "comes m e;comes n e;");
            y.minutes(33);
            int due = y.plan(0, n);
            if (due == NONE) {
                Check.due("move(0, 34) for " + n, y.move(0, 34), 0);
            } else {
                Check.due("move(0, .. " + due + ") for " + n, y.move(0, due), 0);
                Check.due("all(0) for " + n, y.all(0) <= 33 + n, true);
                y.move(0, due + 1);
            }
            Check.due("all(0) for one more than " + n, y.all(0) > 33 + n, true);
        }
        // at once, by a CLOCK that is ahead; CORNER and LATE count
        LateMasters z = Check.town("clock c 0 fast 99;master m 0 1 c;master n 3 1 c;meet e 900;meet f 900;comes m e;comes m f;comes n f;");
        Check.due("plan(0, 0)", z.plan(0, 0), 98);
        Check.due("plan(1, 0)", z.plan(1, 0), NONE);
        Check.due("plan(1, 2)", z.plan(1, 2), NONE);
        Check.due("plan(1, 3)", z.plan(1, 3), 98);
        Check.due("plan(1, 4)", z.plan(1, 4), 99);
    }

    private static void planOfTheGreatestDue() {
        Check.words("the greatest DUE (1999 at most)");
        LateMasters x = Check.town("clock c 0 fast 99;master m 0 1 c;meet e 999;comes m e;");
        x.move(0, 1999);
        Check.pass(x, 1899);
        Check.due("plan(0, 0)", x.plan(0, 0), 1997);
        Check.due("plan(0, 1)", x.plan(0, 1), 1998);
        Check.due("plan(0, 2)", x.plan(0, 2), 1999);
        Check.due("plan(0, 3)", x.plan(0, 3), 1999);
        Check.due("plan(0, 240)", x.plan(0, 240), 1999);
        // no one comes behind MINUTE 1999
        LateMasters y = Check.town(ONE);
        y.move(0, 1999);
        Check.pass(y, 1990);
        Check.due("plan(0, 8) at 1990", y.plan(0, 8), 1997);
        Check.due("plan(0, 9) at 1990", y.plan(0, 9), 1998);
        Check.due("plan(0, 10) at 1990", y.plan(0, 10), 1998);
        Check.due("plan(0, 240) at 1990", y.plan(0, 240), 1998);
        y.minutes(7);
        Check.due("plan(0, 1) at 1997", y.plan(0, 1), NONE);
        Check.due("plan(0, 2) at 1997", y.plan(0, 2), 1998);
        y.minutes(1);
        Check.due("plan(0, 240) at 1998", y.plan(0, 240), NONE);
        y.minutes(1);
        Check.due("plan(0, 240) at 1999", y.plan(0, 240), NONE);
        y.minutes(1);
        Check.due("plan(0, 240) at 2000", y.plan(0, 240), NONE);
    }

    private static void planOfOneThatCanBeMoved() {
        Check.words("to which it could be MOVED now");
        LateMasters x = Check.town(ONE + "meet f 9;");
        x.minutes(10);
        Check.due("plan(0, 2) ahead of MINUTE 10", x.plan(0, 2), 11);
        Check.due("plan(0, 1) ahead of MINUTE 10", x.plan(0, 1), NONE);
        x.minutes(1);
        Check.due("plan(0, 240) when one has set out", x.plan(0, 240), NONE);
        Check.due("plan(1, 240) of nobody", x.plan(1, 240), NONE);
        // by a STOPPED CLOCK he sets out at once or never
        LateMasters y = Check.town("clock c 0 fast 99;master m 0 1 c;meet e 900;comes m e;");
        y.stop(0);
        Check.due("plan(0, 0) by a STOPPED one", y.plan(0, 0), 98);
        Check.due("plan(0, 240) by a STOPPED one", y.plan(0, 240), 98);
        y.minutes(97);
        Check.due("plan(0, 240) at 97", y.plan(0, 240), 98);
        y.minutes(1);
        Check.due("plan(0, 240) at 98", y.plan(0, 240), NONE);
    }

    private static void planAndTheOthers() {
        Check.words("by which ALL of it would be n minutes from now, at most.");
        // found out at another MEET in MINUTE 0, ahead of it or behind it
        LateMasters x = Check.town("clock c 0 fast 50;master m 0 1 c;meet a 20;meet e 90;comes m a;comes m e;");
        Check.due("plan(1, 240) behind", x.plan(1, 240), NONE);
        Check.due("plan(0, 0) ahead", x.plan(0, 0), 49);
        LateMasters y = Check.town("clock c 0 fast 50;master m 0 1 c;meet e 90;meet a 20;comes m a;comes m e;");
        Check.due("plan(0, 0) ahead", y.plan(0, 0), 49);
        Check.due("plan(0, 240) ahead", y.plan(0, 240), 49);
        // found out later, on his way
        LateMasters z = Check.town("clock c 0 fast 50;master m 5 1 c;meet a 20;meet e 90;comes m a;comes m e;");
        Check.due("plan(1, 5)", z.plan(1, 5), 49);
        Check.due("plan(1, 8)", z.plan(1, 8), 52);
        Check.due("plan(1, 9)", z.plan(1, 9), 53);
        Check.due("plan(1, 10)", z.plan(1, 10), 53);
        Check.due("plan(1, 240)", z.plan(1, 240), 53);
        // one of two never comes
        LateMasters w = Check.town("clock c 0;clock d 0;master m 0 1 c;master n 0 1 d;meet e 90;comes m e;comes n e;");
        w.stop(1);
        Check.due("plan(0, 240) of two, one never", w.plan(0, 240), NONE);
    }

    private static void oneToFiveTriples() {
        Check.words("TIME by the tape (triples of bytes: a CLOCK, hours, minutes that it SHOWS: 0 to 11, 0 to 59; 1 to 5 of them)");
        LateMasters x = Check.town("clock a 0;clock b 0 fast 9;");
        int[] bytes = {0, 2, 0, 1, 2, 9, 0, 2, 0, 1, 2, 9, 0, 2, 0, 1, 2, 9, 0, 2, 0};
        for (int n = 0; n <= bytes.length; n++) {
            int[] some = new int[n];
            System.arraycopy(bytes, 0, some, 0, n);
            boolean asTold = n % 3 == 0 && n >= 3 && n <= 15;
            Check.due("time() of " + n + " bytes", Feeder.time(x, some), asTold ? 2 : NONE);
            Check.due("count(4) behind it", x.count(4), 0);
        }
        Check.due("time() of an empty tape", x.time(), NONE);
        // the fifth triple counts, too
        Check.due("time() of five, the last another", Feeder.time(x, 0, 2, 0, 1, 2, 9, 0, 2, 0, 1, 2, 9, 0, 2, 1), 0);
        Check.due("time() of five, the last wrong", Feeder.time(x, 0, 2, 0, 1, 2, 9, 0, 2, 0, 1, 2, 9, 2, 2, 0), NONE);
    }

    private static void hoursAndMinutesShown() {
        Check.words("that it SHOWS: 0 to 11, 0 to 59;");
        LateMasters x = Check.town("clock a 0;clock b 0;clock d 0;clock e 0;clock f 0;clock g 0;");
        Check.due("time() of 0.00", Feeder.time(x, 0, 0, 0), 2);
        Check.due("timeFirst()", x.timeFirst(), 0);
        Check.due("time() of 0.59", Feeder.time(x, 5, 0, 59), 2);
        Check.due("timeFirst()", x.timeFirst(), 59);
        Check.due("time() of 11.00", Feeder.time(x, 0, 11, 0), 2);
        Check.due("timeFirst()", x.timeFirst(), 660);
        Check.due("time() of 11.59", Feeder.time(x, 0, 11, 59), 2);
        Check.due("timeFirst()", x.timeFirst(), 719);
        for (int wrong : new int[] {12, 13, 24, 127, 128, 255}) {
            Check.due("time() of hour " + wrong, Feeder.time(x, 0, wrong, 0), NONE);
        }
        for (int wrong : new int[] {60, 61, 127, 128, 255}) {
            Check.due("time() of minute " + wrong, Feeder.time(x, 0, 0, wrong), NONE);
        }
        for (int wrong : new int[] {6, 7, 127, 128, 250, 255}) {
            Check.due("time() of CLOCK " + wrong, Feeder.time(x, wrong, 0, 0), NONE);
        }
        Check.due("timeFirst() behind all these", x.timeFirst(), 719);
        Check.due("time() without CLOCKS", Feeder.time(new LateMasters(), 0, 0, 0), NONE);
    }

    private static void thisMinuteAndThoseBehindIt() {
        Check.words("of this MINUTE and the 1439 behind it those in which all are so");
        LateMasters x = Check.town("clock a 0;clock b 0;clock c 0 gains 9;");
        x.stop(1);
        // the first and the last of them
        Check.due("time() of 0.00 at 0", Feeder.time(x, 0, 0, 0), 2);
        Check.due("timeFirst()", x.timeFirst(), 0);
        Check.due("time() of 11.59 at 0", Feeder.time(x, 0, 11, 59), 2);
        Check.due("time() by a STOPPED one", Feeder.time(x, 1, 0, 0), 1440);
        Check.due("time() by a STOPPED one, otherwise", Feeder.time(x, 1, 0, 1), 0);
        // c READS 926 in MINUTE 809, 1646 in MINUTE 1439; 216 in MINUTE 189, 936 in MINUTE 819, 1656 in MINUTE 1440
        Check.due("time() of c 3.26", Feeder.time(x, 2, 3, 26), 2);
        Check.due("time() of c 3.36", Feeder.time(x, 2, 3, 36), 2);
        x.minutes(1);
        Check.due("time() of c 3.36 at 1", Feeder.time(x, 2, 3, 36), 3);
        Check.due("time() of 0.00 at 1", Feeder.time(x, 0, 0, 0), 2);
        Check.due("timeFirst()", x.timeFirst(), 720);
        Check.due("time() of 0.01 at 1", Feeder.time(x, 0, 0, 1), 2);
        Check.due("timeFirst()", x.timeFirst(), 1);
        // both must be so at once
        Check.due("time() of 0.01 and the STOPPED one", Feeder.time(x, 0, 0, 1, 1, 0, 0), 2);
        Check.due("time() of 0.01 and c 0.01", Feeder.time(x, 0, 0, 1, 2, 0, 1), 1);
        Check.due("time() of two of one CLOCK", Feeder.time(x, 0, 0, 1, 0, 0, 2), 0);
    }

    private static void noEndForTime() {
        Check.words("as if 2000 was no end.");
        LateMasters x = Check.town("clock a 0;clock b 0 gains 9;");
        Check.pass(x, 1999);
        Check.due("time() of 9.19 at 1999", Feeder.time(x, 0, 9, 19), 2);
        Check.due("timeFirst()", x.timeFirst(), 1999);
        Check.due("time() of 9.20 at 1999", Feeder.time(x, 0, 9, 20), 2);
        Check.due("timeFirst()", x.timeFirst(), 2000);
        x.minutes(1);
        Check.due("time() of 9.20 at 2000", Feeder.time(x, 0, 9, 20), 2);
        Check.due("timeFirst()", x.timeFirst(), 2000);
        Check.due("time() of 9.19 at 2000", Feeder.time(x, 0, 9, 19), 2);
        Check.due("timeFirst()", x.timeFirst(), 2719);
        // b gains on: 3439 + 9 * 57 = 3952 in MINUTE 3439, 352
        Check.due("time() of both in MINUTE 3439", Feeder.time(x, 0, 9, 19, 1, 5, 52), 1);
        Check.due("timeFirst()", x.timeFirst(), 3439);
        Check.due("time() of both in MINUTE 3440", Feeder.time(x, 0, 9, 20, 1, 5, 53), 0);
    }

    private static void lookAtTheFirstOfLikeOnes() {
        Check.words("LOOK: the CLOCK by what it SHOWS in these MINUTES the greatest number of them that may still be left is the least (of like ones the first).");
        LateMasters x = Check.town("clock a 0;clock b 0;clock c 0;");
        Feeder.time(x, 1, 5, 0);
        Check.due("look() of three like ones", x.look(), 0);
        LateMasters y = Check.town("clock a 0;clock b 0 gains 1;clock c 0 gains 2;");
        Feeder.time(y, 0, 5, 0);
        Check.due("look() of two like ones behind", y.look(), 1);
        // one MINUTE alone is left: all are like
        Check.due("time() of two", Feeder.time(y, 0, 5, 0, 1, 5, 5), 1);
        Check.due("look() when one is left", y.look(), 0);
        LateMasters z = Check.town("clock a 0;");
        Feeder.time(z, 0, 0, 0);
        Check.due("look() of one CLOCK", z.look(), 0);
        LateMasters six = Check.town("clock a 0;clock b 0;clock c 0;clock d 0;clock e 0;clock f 0 loses 9;");
        Feeder.time(six, 0, 0, 0);
        Check.due("look() at the sixth", six.look(), 5);
    }

    private static void lookForTheLeast() {
        Check.words("the greatest number of them that may still be left is the least");
        // all 1440 MINUTES: by a each is left twice, by b (1444 READS apart) not all, by STOPPED d all
        LateMasters x = Check.town("clock d 0;clock a 0;clock b 0 gains 9;");
        x.stop(0);
        Check.due("time() by a STOPPED one", Feeder.time(x, 0, 0, 0), 1440);
        // a: 2 of each; b shows some three times, so a is better than b
        Check.due("look()", x.look(), 1);
        LateMasters y = Check.town("clock d 0;clock b 0 loses 9;clock a 0;");
        y.stop(0);
        Feeder.time(y, 0, 0, 0);
        Check.due("look() past one that shows some thrice or more", y.look(), 2);
        x.minutes(1);
        Check.due("look() as it was told", x.look(), 1);
        Feeder.time(x, 0, 5, 0);
        Check.due("look() behind a time() of 0", x.look(), 1);
        Feeder.time(x, 9, 9, 9);
        Check.due("look() behind a time() of NONE", x.look(), 1);
        Feeder.time(x, 1, 5, 0);
        Check.due("look() by another time()", x.look(), 2);
    }

    private static void alikeFrom0To1439() {
        Check.words("ALIKE: in how many minutes (0 to 1439) all CLOCKS SHOW the same.");
        // a is 24 ahead and loses one an hour: alike in MINUTE 1440
        LateMasters x = Check.town("clock a 0 fast 24 loses 1;clock b 0;");
        Check.due("alike() at 0", x.alike(), NONE);
        x.minutes(1);
        Check.due("alike() at 1", x.alike(), 1439);
        x.minutes(1);
        Check.due("alike() at 2", x.alike(), 1438);
        Check.pass(x, 1437);
        Check.due("alike() at 1439", x.alike(), 1);
        x.minutes(1);
        Check.due("alike() at 1440", x.alike(), 0);
        x.minutes(59);
        Check.due("alike() at 1499", x.alike(), 0);
        x.minutes(1);
        Check.due("alike() at 1500", x.alike(), NONE);
        Check.due("alike() of one", Check.town("clock a 0 fast 5;").alike(), 0);
        Check.due("alike() of none", new LateMasters().alike(), NONE);
        // all of them, not some
        Check.due("alike() of three", Check.town("clock a 0;clock b 0;clock c 0 fast 1;").alike(), NONE);
        Check.due("alike() of three", Check.town("clock a 0 fast 1;clock b 0;clock c 0;").alike(), NONE);
        Check.due("alike() of six", Check.town("clock a 0;clock b 0;clock c 0;clock d 0;clock e 0;clock f 0;").alike(), 0);
        Check.due("alike() of six", Check.town("clock a 0;clock b 0;clock c 0;clock d 0;clock e 0;clock f 0 fast 1;").alike(), NONE);
        // it is what they SHOW: a round more is alike, too
        LateMasters y = Check.town("clock a 0;clock b 0;");
        y.stop(1);
        y.minutes(720);
        Check.due("alike() a round later", y.alike(), 0);
        y.minutes(1);
        Check.due("alike() at 721", y.alike(), 719);
    }

    private static void tendOfMoreThanN() {
        Check.words("all CLOCKS that are WRONG by more than n now, ahead or behind");
        LateMasters x = Check.town("clock a 10 fast 5;clock b 20 slow 5;clock c 30 fast 99;master m 0 1 a;");
        Check.due("tend(0, 0)", x.tend(0, 0), 30);
        x.stop(2);
        x.start(2);
        Check.due("tend(0, 4)", x.tend(0, 4), 30);
        Check.due("tend(0, 98)", x.tend(0, 98), 30);
        Check.due("tend(0, 99)", x.tend(0, 99), 0);
        Check.due("tend(0, 100)", x.tend(0, 100), NONE);
        Check.due("tend(0, -1)", x.tend(0, -1), NONE);
        LateMasters y = Check.town("clock a 10 fast 5;clock b 20 slow 6;clock c 30;master m 0 1 a;");
        Check.due("tend(0, 0)", y.tend(0, 0), 20);
        Check.due("tend(0, 4)", y.tend(0, 4), 20);
        Check.due("tend(0, 5)", y.tend(0, 5), 20);
        Check.due("tend(0, 6)", y.tend(0, 6), 0);
        LateMasters z = Check.town("clock a 10 fast 6;clock b 20 slow 5;clock c 30;master m 0 1 a;");
        Check.due("tend(0, 5)", z.tend(0, 5), 10);
        Check.due("tend(0, 6)", z.tend(0, 6), 0);
        // by more than 99
        LateMasters w = Check.town("clock a 7 fast 99 gains 1;clock b 9 slow 99 loses 1;master m 0 1 a;");
        Check.due("tend(0, 99) at 0", w.tend(0, 99), 0);
        w.minutes(60);
        Check.due("tend(0, 99) at 60", w.tend(0, 99), 9);
    }

    private static void tendAlongTheStreet() {
        Check.words("the fewest minutes in which he comes from his CORNER to those");
        LateMasters x = Check.town("clock a 30 fast 1;clock b 0 fast 1;clock c 7 slow 1;master k 0 1 a;master l 30 1 a;master m 15 1 a;"
                + "master n 14 1 a;master o 16 1 a;master p 1 1 a;");
        int[] all = {30, 30, 45, 44, 44, 31};
        for (int m = 0; m < 6; m++) {
            Check.due("tend(" + m + ", 0)", x.tend(m, 0), all[m]);
        }
        LateMasters y = Check.town("clock a 10 fast 1;clock b 20 slow 1;master k 0 1 a;master l 30 1 a;master m 10 1 a;master n 20 1 a;");
        int[] outside = {20, 20, 10, 10};
        for (int m = 0; m < 4; m++) {
            Check.due("tend(" + m + ", 0)", y.tend(m, 0), outside[m]);
        }
        LateMasters z = Check.town("clock a 10 fast 1;clock b 10 slow 1;clock c 0;master k 10 1 a;master l 9 1 a;");
        Check.due("tend(0, 0), all at his CORNER", z.tend(0, 0), 0);
        Check.due("tend(1, 0), one away", z.tend(1, 0), 1);
        Check.due("tend(0, 1), none so WRONG", z.tend(0, 1), 0);
        Check.due("tend(0, 0) of CORNER 0", Check.town("clock a 0 fast 1;clock b 5;master k 30 1 a;").tend(0, 0), 30);
    }

    private static void worstOfLikeOnes() {
        Check.words("WORST: the CLOCK that is WRONG by most minutes now, ahead or behind (of like ones the first).");
        Check.due("worst() of 5 ahead, 5 behind", Check.town("clock a 0 fast 5;clock b 0 slow 5;").worst(), 0);
        Check.due("worst() of 5 behind, 5 ahead", Check.town("clock a 0 slow 5;clock b 0 fast 5;").worst(), 0);
        Check.due("worst() of 5, 6 behind", Check.town("clock a 0 fast 5;clock b 0 slow 6;").worst(), 1);
        Check.due("worst() of 1 behind", Check.town("clock a 0;clock b 0;clock c 0 slow 1;").worst(), 2);
        Check.due("worst() of the sixth", Check.town("clock a 0;clock b 0;clock c 0;clock d 0;clock e 0;clock f 0 fast 1;").worst(), 5);
        Check.due("worst() of right ones", Check.town("clock a 0;clock b 0 gains 1;").worst(), NONE);
        Check.due("worst() of none", new LateMasters().worst(), NONE);
        LateMasters x = Check.town("clock a 0;clock b 0 gains 1;");
        x.minutes(59);
        Check.due("worst() at 59", x.worst(), NONE);
        x.minutes(1);
        Check.due("worst() at 60", x.worst(), 1);
        x.stop(0);
        x.minutes(1);
        Check.due("worst() of like ones at 61", x.worst(), 0);
    }

    private static void latestOfLikeOnes() {
        Check.words("LATEST: the MASTER who came to MEETS latest, by the greatest number of minutes behind DUE (of like ones the first;");
        // k comes 10 behind DUE once, l twice, m 9 and 11
        LateMasters x = Check.town("clock c 0;master k 0 10 c;master l 0 10 c;master m 0 9 c;meet e 50;meet f 59;"
                + "comes l e;comes l f;comes k f;comes m e;comes m f;");
        Check.pass(x, 60);
        Check.due("latest() at 60", x.latest(), 2);
        Check.due("latestBy()", x.latestBy(), 9);
        x.minutes(1);
        Check.due("latest() at 61", x.latest(), 1);
        Check.due("latestBy()", x.latestBy(), 10);
        Check.pass(x, 9);
        Check.due("latest() of like ones", x.latest(), 0);
        Check.due("latestBy()", x.latestBy(), 10);
        // of his MEETS the one at which he was latest: k comes 5 and 14 behind DUE, l 9
        LateMasters y = Check.town("clock c 0 loses 9;master k 0 5 c;master l 0 9 c;meet e 50;meet f 59;comes k e;comes k f;comes l e;");
        Check.pass(y, 200);
        Check.due("latest()", y.latest(), 0);
        Check.due("latestBy()", y.latestBy(), 14);
        Check.due("now(5)", y.now(5), 28);
    }

    private static void latestNotBehindDue() {
        Check.words("who came not behind DUE is not counted");
        // in MINUTE 20 to DUE 20
        LateMasters x = Check.town("clock c 0 fast 1;master m 0 1 c;meet e 20;comes m e;");
        x.minutes(21);
        Check.due("meet(0, 3)", x.meet(0, 3), 1);
        Check.due("latest() at DUE", x.latest(), NONE);
        Check.due("latestBy()", x.latestBy(), NONE);
        LateMasters y = Check.town("clock c 0 fast 1;master m 1 1 c;meet e 20;comes m e;");
        y.minutes(22);
        Check.due("latest() one behind DUE", y.latest(), 0);
        Check.due("latestBy()", y.latestBy(), 1);
        Check.due("latest() of one too early", early().latest(), NONE);
    }

    private static LateMasters early() {
        LateMasters x = Check.town(EARLY);
        x.minutes(1);
        return x;
    }

    private static void facesOfClocks() {
        Check.words("FACE of a CLOCK: its NAME, ' shows ' and hours as digits, a '.', minutes as two digits, ' stopped' behind it, if it is.");
        LateMasters x = Check.town("clock a 0;");
        int[] minutes = {0, 1, 9, 10, 59, 60, 69, 70, 599, 600, 609, 659, 660, 719, 720, 729, 1379, 1440, 2000};
        String[] faces = {"0.00", "0.01", "0.09", "0.10", "0.59", "1.00", "1.09", "1.10", "9.59", "10.00", "10.09", "10.59",
            "11.00", "11.59", "0.00", "0.09", "10.59", "0.00", "9.20"};
        for (int i = 0; i < minutes.length; i++) {
            Check.pass(x, minutes[i] - x.now(0));
            Check.due("face(0) at " + minutes[i], Feeder.face(x, 0), "a shows " + faces[i]);
        }
        x.stop(0);
        Check.due("face(0) STOPPED", Feeder.face(x, 0), "a shows 9.20 stopped");
        x.start(0);
        Check.due("face(0) STARTED", Feeder.face(x, 0), "a shows 9.20");
        LateMasters y = Check.town("clock abcdefg 0 slow 1;clock z 0;");
        y.stop(0);
        Check.due("face(0), the longest", y.face(0), 27);
        Check.due("face(0), the longest", Feeder.face(y, 0), "abcdefg shows 11.59 stopped");
        Check.due("face(1), the shortest", y.face(1), 12);
        Check.due("face(1), the shortest", Feeder.face(y, 1), "z shows 0.00");
    }

    private static int next(int x) {
        return (int) (x * 1103515245L + 12345L);
    }

    private static int draw(int x, int n) {
        return (int) ((x & 0xffffffffL) / 256 % n);
    }

    /** Of three CLOCKS and two MASTERS who never are found out: what is WRONG with each, and its hours, by hand. */
    private static void dueDrawn(int hours, int seed) {
        LateMasters x = Check.town("clock a 0 fast 10 gains 6;clock b 0;clock c 0 slow 5 loses 3;master m 0 20 a;master n 0 7 b;");
        int[] gain = {6, 0, -3};
        int[] late = {20, 7};
        int[] wrong = {10, 0, -5};
        boolean[] stopped = new boolean[3];
        int seedNow = seed;
        for (int hour = 0; hour < hours; hour++) {
            seedNow = next(seedNow);
            int kind = draw(seedNow, 4);
            if (kind == 0) {
                seedNow = next(seedNow);
                stopped[draw(seedNow, 3)] ^= true;
            } else if (kind == 1) {
                seedNow = next(seedNow);
                int m = draw(seedNow, 2);
                seedNow = next(seedNow);
                int c = draw(seedNow, 3);
                wrong[c] = stopped[c] ? wrong[c] : -late[m];
            }
            for (int c = 0; c < 3; c++) {
                wrong[c] += stopped[c] ? -60 : gain[c];
            }
        }
        Check.due("drawn(" + hours + ", " + seed + ")", x.drawn(hours, seed), 60 * hours);
        for (int c = 0; c < 3; c++) {
            Check.due("wrong(" + c + ") by " + hours + ", " + seed, x.wrong(c), wrong[c]);
            Check.due("clock(" + c + ", 2) by " + hours + ", " + seed, x.clock(c, 2), stopped[c] ? 1 : 0);
        }
        Check.due("now(0)", x.now(0), 60 * hours);
        Check.due("undo() of all hours", x.undo(), 0);
        Check.due("now(0)", x.now(0), 0);
    }

    private static void drawsWrap() {
        Check.words("for each draw of n x becomes x * 1103515245 + 12345 (an int, wrapping), the draw is (x >>> 8) % n");
        int[] seeds = {0, 1, -1, 2, 255, 256, 65535, 12345, -12345, 1 << 30, Integer.MAX_VALUE, Integer.MIN_VALUE,
            Integer.MAX_VALUE - 1, Integer.MIN_VALUE + 1};
        for (int seed : seeds) {
            dueDrawn(1, seed);
            dueDrawn(2, seed);
            dueDrawn(24, seed);
        }
        for (int seed = -30; seed < 30; seed++) {
            dueDrawn(7, seed * 71993);
        }
    }

    private static void hoursAsLongAsMinutesAreLeft() {
        Check.words("each hour, as long as MINUTES are left");
        Check.words("then 60 MINUTES (as many as are left).");
        for (int minute : new int[] {1939, 1940, 1941, 1999, 2000}) {
            int left = 2000 - minute;
            LateMasters x = Check.town("clock a 0;");
            Check.pass(x, minute);
            Check.due("drawn(1, 3) at " + minute, x.drawn(1, 3), Math.min(60, left));
            Check.due("drawn(24, 3) behind it", x.drawn(24, 3), Math.max(0, left - 60));
            Check.due("now(0)", x.now(0), 2000);
        }
        // a seed that stops the only CLOCK each hour: in the hour that has MINUTES left, and none behind it
        int seed = 0;
        while (draw(next(seed), 4) != 0 || draw(next(next(next(seed))), 4) != 0) {
            seed++;
        }
        LateMasters x = Check.town("clock a 0;");
        Check.pass(x, 1999);
        Check.due("drawn(2, " + seed + ") at 1999", x.drawn(2, seed), 1);
        Check.due("now(2), one hour DRAWN", x.now(2), 1);
        Check.due("wrong(0)", x.wrong(0), -1);
        Check.due("drawn(2, " + seed + ") at 2000", x.drawn(2, seed), 0);
        Check.due("now(2), none DRAWN", x.now(2), 1);
        LateMasters y = Check.town("clock a 0;");
        Check.pass(y, 1940);
        Check.due("drawn(2, " + seed + ") at 1940", y.drawn(2, seed), 60);
        Check.due("now(2), one hour DRAWN", y.now(2), 1);
        LateMasters z = Check.town("clock a 0;");
        Check.pass(z, 1939);
        Check.due("drawn(2, " + seed + ") at 1939", z.drawn(2, seed), 61);
        Check.due("now(2), two hours DRAWN", z.now(2), 0);
        Check.due("wrong(0)", z.wrong(0), -60);
    }

    private static int seedOf(int kind) {
        int seed = 0;
        while (draw(next(seed), 4) != kind) {
            seed++;
        }
        return seed;
    }

    private static void drawnStopsAndStarts() {
        Check.words("0: a draw of all CLOCKS: it is STOPPED, or STARTED, if it is");
        int seed = seedOf(0);
        LateMasters x = Check.town("clock a 0 gains 4;");
        x.drawn(1, seed);
        Check.due("now(2), STOPPED", x.now(2), 1);
        Check.due("wrong(0)", x.wrong(0), -60);
        x.drawn(1, seed);
        Check.due("now(2), STARTED", x.now(2), 0);
        Check.due("wrong(0) an hour behind it", x.wrong(0), -56);
        // 2 and 3: nothing is done, and no more is drawn
        for (int kind = 2; kind < 4; kind++) {
            int other = seedOf(kind);
            LateMasters y = Check.town("clock a 0 gains 4;master m 0 9 a;");
            Check.due("drawn(1, " + other + ")", y.drawn(1, other), 60);
            Check.due("now(2)", y.now(2), 0);
            Check.due("wrong(0)", y.wrong(0), 4);
        }
    }

    private static void drawnSetsIfHeCan() {
        Check.words("1: a draw of all MASTERS, of all CLOCKS: that one SETS it, if he can");
        int seed = seedOf(1);
        LateMasters x = Check.town("clock a 0 fast 7 gains 4;master m 0 9 a;");
        x.drawn(1, seed);
        Check.due("wrong(0), SET", x.wrong(0), -5);
        x.stop(0);
        x.drawn(1, seed);
        Check.due("wrong(0), STOPPED", x.wrong(0), -65);
        Check.due("now(2)", x.now(2), 1);
        LateMasters out = early();
        out.drawn(1, seed);
        Check.due("wrong(0) by one OUT", out.wrong(0), 50);
        // the draw of a CLOCK is made when he can't SET it, too: the next hour is drawn by the fourth draw
        int two = 0;
        while (draw(next(two), 4) != 1 || draw(next(next(next(next(two)))), 4) != 0) {
            two++;
        }
        LateMasters y = early();
        y.drawn(2, two);
        Check.due("now(2) behind two hours", y.now(2), 1);
    }

    private static void noMoreDraws() {
        Check.words("(no CLOCKS, or for 1 no MASTERS: no more draws)");
        LateMasters none = new LateMasters();
        Check.due("drawn(24, 1) of nothing", none.drawn(24, 1), 1440);
        Check.due("drawn(24, 1) of nothing", none.drawn(24, 1), 560);
        Check.due("now(2) of nothing", none.now(2), 0);
        Check.due("now(3) of nothing", none.now(3), 0);
        Check.due("drawn(24, 1) of MEETS alone", Check.town("meet e 5;").drawn(24, 1), 1440);
        // without MASTERS an hour of 1 takes one draw alone, an hour of 0 two
        for (int seed = 0; seed < 400; seed++) {
            int first = next(seed);
            int second = next(first);
            int third = next(second);
            LateMasters x = Check.town("clock a 0;clock b 0;clock c 0;");
            if (draw(first, 4) == 1 && draw(second, 4) == 0) {
                x.drawn(2, seed);
                Check.due("now(2) by " + seed, x.now(2), 1 << draw(third, 3));
            } else if (draw(first, 4) == 0 && draw(third, 4) == 1) {
                x.drawn(2, seed);
                Check.due("now(2) by " + seed, x.now(2), 1 << draw(second, 3));
            }
        }
    }

    private static void fractions() {
        Check.words("All fractions are told by two numbers: 0 above, 1 below, in least terms.");
        // 8, 10, 8 and 28 minutes behind DUE: 54 by 4
        LateMasters x = Check.town("clock dom 5 fast 10 gains 6;clock ash 0;clock elm 20 slow 5 loses 3;"
                + "master ann 4 20 dom;master bob 0 10 ash;master cid 15 5 elm;meet tea 60;meet ball 100;"
                + "comes ann tea;comes bob tea;comes cid ball;comes ann ball;");
        x.minutes(69);
        dueMean(x, 8, 1);
        x.minutes(2);
        dueMean(x, 9, 1);
        x.minutes(38);
        dueMean(x, 26, 3);
        x.minutes(20);
        dueMean(x, 27, 2);
        dueMean(early(), 0, 1);
        // two came, one of them in time: 1 by 2; both: 0 by 2 is 0 by 1
        LateMasters y = Check.town("clock c 0 fast 90;master m 20 1 c;master n 21 1 c;meet e 20;comes m e;comes n e;");
        y.minutes(21);
        dueMean(y, 0, 1);
        y.minutes(1);
        dueMean(y, 1, 2);
        LateMasters z = Check.town("clock c 0 fast 90;master m 0 1 c;master n 0 1 c;meet e 20;comes m e;comes n e;");
        z.minutes(1);
        Check.due("now(4)", z.now(4), 2);
        dueMean(z, 0, 1);
    }

    private static void dueMean(LateMasters x, int above, int below) {
        Check.due("mean(0) at " + x.now(0), x.mean(0), above);
        Check.due("mean(1) at " + x.now(0), x.mean(1), below);
    }

    private static void aNewBurgh() {
        Check.words("A new BURGH: MINUTE 0, nobody has set out, nothing STOPPED, no SENTENCE.");
        LateMasters x = Check.town(EARLY);
        Feeder.sentence(x, "out");
        x.minutes(60);
        x.stop(0);
        Check.due("burgh()", Feeder.burgh(x, EARLY), 6);
        Check.due("now(0)", x.now(0), 0);
        Check.due("now(1)", x.now(1), 0);
        Check.due("now(2)", x.now(2), 0);
        Check.due("now(4)", x.now(4), 0);
        Check.due("meet(0, 2)", x.meet(0, 2), 0);
        Check.due("meet(0, 3)", x.meet(0, 3), 0);
        Check.due("said(NONE)", x.said(NONE), NONE);
        Check.due("wrong(0)", x.wrong(0), 50);
        Check.due("undo()", x.undo(), NONE);
        Check.due("comes(0, 0)", x.comes(0, 0), 0);
        // SET and MOVED ones are as told again
        LateMasters y = Check.town(ONE);
        y.set(0, 0);
        y.move(0, 500);
        y.minutes(30);
        Feeder.burgh(y, ONE);
        Check.due("wrong(0)", y.wrong(0), 0);
        Check.due("meet(0, 0)", y.meet(0, 0), 9);
        // its hours are counted from MINUTE 0, whenever a CLOCK was SET ahead of it
        LateMasters w = Check.town("clock c 0;clock d 0;master m 0 1 c;");
        w.minutes(50);
        w.set(0, 0);
        w.stop(1);
        w.minutes(5);
        w.start(1);
        Feeder.burgh(w, "clock c 0 gains 3;clock d 0 loses 3;");
        w.minutes(60);
        Check.due("wrong(0) at 60", w.wrong(0), 3);
        Check.due("wrong(1) at 60", w.wrong(1), -3);
        // a BURGH with a FAULT leaves all
        LateMasters z = early();
        Feeder.sentence(z, "out");
        Feeder.burgh(z, "clock c 0;clock c 0;");
        Check.due("now(0) behind a FAULT", z.now(0), 1);
        Check.due("now(1) behind a FAULT", z.now(1), 1);
        Check.due("said(NONE) behind a FAULT", z.said(NONE), 1);
        Check.due("undo() behind a FAULT", z.undo(), 0);
    }
}
