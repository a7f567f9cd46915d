import java.util.Arrays;
import java.util.NoSuchElementException;

/** A burgh of clocks that go wrong, and masters who go by them: the document's promises 1 to 41. */
public final class LateMasters {
    public static final int NONE = -1;

    /** How many CLOCKS, MASTERS and MEETS there may be, of each sort. */
    private static final int MOST = 6;
    private static final int MINUTES = 2000;
    private static final int HOUR = 60;
    private static final int DIAL = 720;
    /** How many MINUTES TIME and ALIKE look at: two rounds of a face. */
    private static final int SPAN = 1440;
    private static final int TAPE_BYTES = 940;
    private static final int FEED_BYTES = 20;
    private static final int BURGH_BYTES = 900;
    private static final int BOOK_BYTES = 400;
    private static final int BOOK_LINES = 40;
    private static final int SENTENCE_BYTES = 200;
    private static final int MOST_ONES = 20;
    private static final int MOST_WITHIN = 8;
    private static final int WAIT_UNTOLD = 15;
    private static final int UNDOABLE = 8;
    private static final int IMAGES = 2;
    private static final int ODDS_HOURS = 6;
    private static final int OTHER_LIVES = -1000;

    /** The words that are no NAMES, each with a blank behind it; the numbers below tell their places. */
    private static final String KEYWORDS = "clock master meet comes wait fast slow gains loses sets stop start move minute or and not out going right by to late corner came number ";
    private static final int CLOCK = 0;
    private static final int MASTER = 1;
    private static final int MEET = 2;
    private static final int COMES = 3;
    private static final int WAIT = 4;
    private static final int FAST = 5;
    private static final int SLOW = 6;
    private static final int GAINS = 7;
    private static final int LOSES = 8;
    private static final int SETS = 9;
    private static final int STOP = 10;
    private static final int START = 11;
    private static final int MOVE = 12;
    private static final int MINUTE = 13;
    private static final int OR = 14;
    private static final int AND = 15;
    private static final int NOT = 16;
    private static final int OUT = 17;
    private static final int GOING = 18;
    private static final int RIGHT = 19;
    private static final int BY = 20;
    private static final int TO = 21;
    private static final int LATE = 22;
    private static final int CORNER = 23;
    private static final int CAME = 24;
    private static final int NUMBER = 25;

    /** Kinds of FAULTS. */
    private static final int CANNOT_COME = 1;
    private static final int BAD_NUMBER = 2;
    private static final int BAD_NAME = 3;
    private static final int ONE_TOO_MANY = 4;

    private final Tape tape = new Tape();
    private final Tokens tokens = new Tokens(tape);
    private final World here = new World();
    private final World[] images = new World[IMAGES];
    private final History history = new History(here.burgh);
    /** A day on which is tried out what would go on. */
    private final Day trial = new Day(here.burgh);
    private final BurghReader burghReader = new BurghReader(tokens);
    private final SentenceReader sentenceReader = new SentenceReader(tokens, here.burgh);
    private final Book ledger = new Book(tokens, here.burgh);
    private final Watch watch = new Watch();
    private final StringBuilder dial = new StringBuilder();
    private int lastFault = 0;
    private int lastLateness = NONE;

    public LateMasters() {
        for (int k = 0; k < IMAGES; k++) {
            images[k] = new World();
        }
    }

    public int feed(int a, int b, int c, int d, int e) {
        if (tape.length + FEED_BYTES > TAPE_BYTES) {
            return NONE;
        }
        tape.append(a);
        tape.append(b);
        tape.append(c);
        tape.append(d);
        tape.append(e);
        return tape.length;
    }

    public boolean end(int n) {
        if (n < 0 || n > tape.length) {
            return false;
        }
        tape.length = n;
        return true;
    }

    public int burgh() {
        int lines = burghReader.read();
        closeText();
        if (lastFault != 0) {
            return -1 - tokens.faultPlace;
        }
        here.burgh.copyFrom(burghReader.draft);
        here.day.begin();
        here.sentence.clear();
        history.forget();
        return lines;
    }

    public int fault() {
        return lastFault;
    }

    public int clock(int c, int what) {
        if (!isClock(c)) {
            return NONE;
        }
        switch (what) {
            case 0:
                return here.burgh.clockCorner[c];
            case 1:
                return here.burgh.clockGain[c];
            case 2:
                return here.day.isStopped(c) ? 1 : 0;
            case 3:
                return here.day.shows(c, here.day.minute);
            case 4:
                return here.burgh.mastersBy(c);
            default:
                return NONE;
        }
    }

    public int wrong(int c) throws NoSuchElementException {
        if (!isClock(c)) {
            throw new NoSuchElementException("no such clock");
        }
        return here.day.wrongBy(c);
    }

    public int master(int m, int what) throws NoSuchElementException {
        if (!isMaster(m) || what < 0 || what > 6) {
            throw new NoSuchElementException("no such master, or nothing such of one");
        }
        switch (what) {
            case 0:
                return here.burgh.masterCorner[m];
            case 1:
                return here.burgh.masterLate[m];
            case 2:
                return here.burgh.masterClock[m];
            case 3:
                return here.day.isOut(m) ? 1 : 0;
            case 4:
                return here.burgh.masterMeets[m];
            case 5:
                return here.day.meetsIn(here.day.left, m);
            default:
                return here.day.meetsIn(here.day.came, m);
        }
    }

    public int meet(int e, int what) {
        if (!isMeet(e)) {
            return NONE;
        }
        switch (what) {
            case 0:
                return here.day.due[e];
            case 1:
                return here.burgh.mastersTo(e);
            case 2:
                return here.day.mastersIn(here.day.left, e);
            case 3:
                return here.day.mastersIn(here.day.came, e);
            default:
                return NONE;
        }
    }

    public int now(int what) {
        switch (what) {
            case 0:
                return here.day.minute;
            case 1:
                return here.day.out;
            case 2:
                return here.day.stopped;
            case 3:
                return here.day.rightClocks();
            case 4:
                return here.day.howOftenCame();
            case 5:
                return here.day.minutesBehind();
            default:
                return NONE;
        }
    }

    public int set(int m, int c) {
        if (!isMaster(m) || !isClock(c)) {
            return NONE;
        }
        int why = here.day.whyNotSet(m, c);
        if (why == 0) {
            history.keep(here.day);
            here.day.adjust(m, c);
        }
        return why;
    }

    public int stop(int c) {
        if (!isClock(c)) {
            return NONE;
        }
        int why = here.day.whyNotStop(c);
        if (why == 0) {
            history.keep(here.day);
            here.day.halt(c);
        }
        return why;
    }

    public int start(int c) {
        if (!isClock(c)) {
            return NONE;
        }
        int why = here.day.whyNotStart(c);
        if (why == 0) {
            history.keep(here.day);
            here.day.resume(c);
        }
        return why;
    }

    public int move(int e, int due) {
        if (!isMeet(e) || due < 0 || due >= MINUTES) {
            return NONE;
        }
        int why = here.day.whyNotMove(e, due);
        if (why == 0) {
            history.keep(here.day);
            here.day.due[e] = due;
        }
        return why;
    }

    public int minutes(int n) {
        if (n < 1 || n > 999) {
            return NONE;
        }
        if (here.day.minutesLeft() > 0) {
            history.keep(here.day);
        }
        return here.day.pass(n);
    }

    public int undo() {
        return history.takeBack(here.day);
    }

    public int comes(int m, int e) {
        if (!isMaster(m) || !isMeet(e)) {
            return NONE;
        }
        foresee();
        return trial.came[slot(m, e)];
    }

    public int all(int e) {
        if (!isMeet(e)) {
            return NONE;
        }
        foresee();
        return trial.lastComes(e);
    }

    public int missed(int e) {
        if (!isMeet(e)) {
            return NONE;
        }
        foresee();
        return here.burgh.mastersTo(e) & ~trial.cameBy(e, trial.due[e] + here.burgh.patience);
    }

    public int caught(int e) {
        if (!isMeet(e)) {
            return NONE;
        }
        foresee();
        return trial.cameBy(e, trial.due[e]);
    }

    public int plan(int e, int n) {
        if (!isMeet(e) || n < 0 || n > 240) {
            return NONE;
        }
        if (here.burgh.mastersTo(e) == 0 || here.day.mastersIn(here.day.left, e) != 0) {
            return NONE;
        }
        int best = NONE;
        int low = here.day.minute + 1;
        int high = MINUTES - 1;
        for (int step = 0; step < MINUTES && low <= high; step++) {
            int middle = (low + high) / 2;
            if (allWouldCome(e, middle, n)) {
                best = middle;
                low = middle + 1;
            } else {
                high = middle - 1;
            }
        }
        return best;
    }

    public int time() {
        int found = watch.search(here.day, tape);
        tape.length = 0;
        return found;
    }

    public int timeFirst() {
        return watch.first;
    }

    public int look() {
        return watch.bestClock;
    }

    public int alike() {
        if (here.burgh.clocks == 0) {
            return NONE;
        }
        for (int k = 0; k < SPAN; k++) {
            if (here.day.showAlike(here.day.minute + k)) {
                return k;
            }
        }
        return NONE;
    }

    public int tend(int m, int n) {
        if (!isMaster(m) || n < 0 || n > 99) {
            return NONE;
        }
        int from = here.burgh.masterCorner[m];
        int low = NONE;
        int high = NONE;
        for (int c = 0; c < here.burgh.clocks; c++) {
            if (Math.abs(here.day.wrongBy(c)) > n) {
                int corner = here.burgh.clockCorner[c];
                low = low == NONE ? corner : Math.min(low, corner);
                high = Math.max(high, corner);
            }
        }
        if (low == NONE) {
            return 0;
        }
        return high - low + Math.min(Math.abs(from - low), Math.abs(from - high));
    }

    public int worst() {
        int worst = NONE;
        int most = 0;
        for (int c = 0; c < here.burgh.clocks; c++) {
            int wrong = Math.abs(here.day.wrongBy(c));
            if (wrong > most) {
                most = wrong;
                worst = c;
            }
        }
        return worst;
    }

    public int latest() {
        int latest = NONE;
        int most = 0;
        for (int m = 0; m < here.burgh.masters; m++) {
            int behind = here.day.mostBehind(m);
            if (behind > most) {
                most = behind;
                latest = m;
            }
        }
        if (latest != NONE) {
            lastLateness = most;
        }
        return latest;
    }

    public int latestBy() {
        return lastLateness;
    }

    public int mean(int what) throws NoSuchElementException {
        int often = here.day.howOftenCame();
        if (often == 0 || what < 0 || what > 1) {
            throw new NoSuchElementException("nobody came, or no such part of a fraction");
        }
        int behind = here.day.minutesBehind();
        int common = greatestCommon(often, behind);
        if (common == 0) {
            return 0;
        }
        return (what == 0 ? behind : often) / common;
    }

    public int face(int c) {
        if (!isClock(c)) {
            return NONE;
        }
        int shown = here.day.shows(c, here.day.minute);
        dial.setLength(0);
        spell(here.burgh.clockName[c]);
        dial.append(" shows ");
        dial.append(shown / HOUR);
        dial.append('.');
        dial.append((char) ('0' + shown % HOUR / 10));
        dial.append((char) ('0' + shown % 10));
        if (here.day.isStopped(c)) {
            dial.append(" stopped");
        }
        return dial.length();
    }

    public int byteAt(int i) {
        if (i < 0 || i >= dial.length()) {
            return NONE;
        }
        return dial.charAt(i);
    }

    public int drawn(int n, int seed) {
        if (n < 1 || n > 24) {
            return NONE;
        }
        if (here.day.minutesLeft() > 0) {
            history.keep(here.day);
        }
        return here.day.passDrawn(n, seed);
    }

    public int odds(int m, int n, int seed) {
        if (!isMaster(m) || n < 1 || n > 20) {
            return NONE;
        }
        int found = 0;
        for (int k = 0; k < n; k++) {
            trial.copyFrom(here.day);
            trial.passDrawn(ODDS_HOURS, seed + k);
            if (trial.isOut(m)) {
                found++;
            }
        }
        return found;
    }

    public int book(int lives) {
        if (lives < 0 || lives > 1) {
            return OTHER_LIVES;
        }
        ledger.read();
        closeText();
        if (lastFault != 0) {
            return -2 - tokens.faultPlace;
        }
        trial.copyFrom(here.day);
        ledger.judge(trial);
        if (lives == 1 && ledger.good > 0) {
            history.keep(here.day);
            here.day.copyFrom(trial);
        }
        return ledger.why == 0 ? NONE : ledger.good;
    }

    public int told(int what) {
        if (!ledger.judged) {
            return NONE;
        }
        switch (what) {
            case 0:
                return ledger.why;
            case 1:
                return ledger.good;
            case 2:
                return ledger.minuteThen;
            case 3:
                return ledger.outThen;
            default:
                return NONE;
        }
    }

    public int sentence() {
        int ones = sentenceReader.read();
        closeText();
        if (lastFault != 0) {
            return -1 - tokens.faultPlace;
        }
        here.sentence.copyFrom(sentenceReader.draft);
        return ones;
    }

    public int said(int k) {
        if (here.sentence.length == 0) {
            return NONE;
        }
        int masters = here.sentence.mastersSaid(here.day);
        if (k == NONE) {
            return Integer.bitCount(masters);
        }
        int nth = 0;
        for (int m = 0; m < here.burgh.masters; m++) {
            if (hasBit(masters, m)) {
                if (nth == k) {
                    return m;
                }
                nth++;
            }
        }
        return NONE;
    }

    public boolean image(int k) {
        if (k < 0 || k >= IMAGES) {
            return false;
        }
        images[k].copyFrom(here);
        images[k].kept = true;
        return true;
    }

    public boolean restore(int k) {
        if (k < 0 || k >= IMAGES || !images[k].kept) {
            return false;
        }
        here.copyFrom(images[k]);
        history.forget();
        return true;
    }

    public int count(int what) {
        switch (what) {
            case 0:
                return here.burgh.clocks;
            case 1:
                return here.burgh.masters;
            case 2:
                return here.burgh.meets;
            case 3:
                return here.burgh.patience;
            case 4:
                return tape.length;
            default:
                return NONE;
        }
    }

    private boolean isClock(int c) {
        return c >= 0 && c < here.burgh.clocks;
    }

    private boolean isMaster(int m) {
        return m >= 0 && m < here.burgh.masters;
    }

    private boolean isMeet(int e) {
        return e >= 0 && e < here.burgh.meets;
    }

    /** What was read is off the tape, with or without a FAULT. */
    private void closeText() {
        lastFault = tokens.fault;
        tape.length = 0;
    }

    /** The trial day goes on to its end, as it would if nothing else was done. */
    private void foresee() {
        trial.copyFrom(here.day);
        trial.pass(MINUTES);
    }

    /**
     * Who would come for a DUE would for each lesser one, too, so that the greatest is found by halving:
     * until he sets out, what his CLOCK READS and whether he is OUT do not depend on this DUE.
     */
    private boolean allWouldCome(int e, int due, int within) {
        trial.copyFrom(here.day);
        trial.due[e] = due;
        trial.pass(within + 1);
        return trial.lastComes(e) != NONE;
    }

    private void spell(long name) {
        for (int shift = 48; shift >= 0; shift -= 8) {
            int sign = (int) (name >> shift) & 255;
            if (sign != 0) {
                dial.append((char) sign);
            }
        }
    }

    private static int greatestCommon(int a, int b) {
        int greater = a;
        int lesser = b;
        for (int step = 0; step < 100 && lesser != 0; step++) {
            int rest = greater % lesser;
            greater = lesser;
            lesser = rest;
        }
        return greater;
    }

    private static boolean hasBit(int bits, int i) {
        return (bits >> i & 1) != 0;
    }

    /** Where the rows of what is so between a MASTER and a MEET have it. */
    private static int slot(int m, int e) {
        return m * MOST + e;
    }

    private static final class Tape {
        final byte[] bytes = new byte[TAPE_BYTES];
        int length = 0;

        void append(int number) {
            for (int shift = 24; shift >= 0; shift -= 8) {
                if (length < bytes.length) {
                    bytes[length] = (byte) (number >> shift);
                    length++;
                }
            }
        }

        int at(int i) {
            return i < 0 || i >= length ? NONE : bytes[i] & 255;
        }
    }

    /** The tape's TOKENS, all read at first, then taken one after another, with the first FAULT. */
    private static final class Tokens {
        static final int END = 0;
        static final int BROKEN = 1;
        static final int NAME = 2;
        static final int KEYWORD = 3;
        static final int DIGITS = 4;
        static final int SYMBOL = 5;

        /** The TOKEN that is next. */
        int kind = END;
        int place = 0;
        /** A keyword's number, a NUMBER's value, a symbol's byte. */
        int value = 0;
        /** A WORD's letters, eight bits each, the last one lowest. */
        long word = 0;
        int fault = 0;
        int faultPlace = 0;
        private final Tape tape;
        private int size = 0;
        private int taken = 0;
        private final int[] kinds = new int[BURGH_BYTES + 1];
        private final int[] places = new int[BURGH_BYTES + 1];
        private final int[] values = new int[BURGH_BYTES + 1];
        private final long[] words = new long[BURGH_BYTES + 1];

        Tokens(Tape tape) {
            this.tape = tape;
        }

        /** A text that is too long ends with what is no TOKEN, so that no reader gets beyond it. */
        void open(int most) {
            int end = Math.min(tape.length, most);
            size = 0;
            int at = 0;
            while (at < end) {
                at += Math.max(1, readAt(at));
            }
            put(tape.length > most ? BROKEN : END, end, 0, 0);
            fault = 0;
            faultPlace = 0;
            taken = 0;
            advance();
        }

        /** The last TOKEN, the end, stays. */
        void advance() {
            if (taken < size) {
                kind = kinds[taken];
                place = places[taken];
                value = values[taken];
                word = words[taken];
                taken++;
            }
        }

        /** Always false, so that a reader can answer by it. */
        boolean refuse(int kindOfFault) {
            if (fault == 0) {
                fault = kindOfFault;
                faultPlace = place;
            }
            return false;
        }

        boolean isAtEnd() {
            return kind == END;
        }

        boolean isKeyword(int keyword) {
            return kind == KEYWORD && value == keyword;
        }

        boolean isSymbol(int symbol) {
            return kind == SYMBOL && value == symbol;
        }

        boolean takeSymbol(int symbol) {
            if (!isSymbol(symbol)) {
                return refuse(CANNOT_COME);
            }
            advance();
            return true;
        }

        /** The NUMBER, or NONE behind a FAULT. */
        int takeNumber(int least, int greatest) {
            int number = value;
            if (kind != DIGITS) {
                refuse(CANNOT_COME);
                return NONE;
            }
            if (number < least || number > greatest) {
                refuse(BAD_NUMBER);
                return NONE;
            }
            advance();
            return number;
        }

        /** Which of the names is next, or NONE behind a FAULT; the reader goes on himself. */
        int findName(long[] names, int count) {
            if (kind != NAME) {
                refuse(CANNOT_COME);
                return NONE;
            }
            int found = Burgh.indexOf(names, count, word);
            if (found == NONE) {
                refuse(BAD_NAME);
            }
            return found;
        }

        /** How many bytes were read: a TOKEN, what is none, or a blank. */
        private int readAt(int at) {
            int sign = tape.at(at);
            if (isLetter(sign) || isDigit(sign)) {
                return readRun(at);
            }
            if (sign != ' ' && sign != 10) {
                put(isMark(sign) ? SYMBOL : BROKEN, at, sign, 0);
            }
            return 1;
        }

        /** A run of small letters and digits is one TOKEN or none. */
        private int readRun(int from) {
            int letters = 0;
            int number = 0;
            long spelled = 0;
            int at = from;
            while (at < tape.length && (isLetter(tape.at(at)) || isDigit(tape.at(at)))) {
                int sign = tape.at(at);
                letters += isLetter(sign) ? 1 : 0;
                number = number * 10 + sign - '0';
                spelled = spelled << 8 | sign;
                at++;
            }
            int run = at - from;
            if (letters == run && run <= 7) {
                int keyword = keywordOf(spelled);
                put(keyword == NONE ? NAME : KEYWORD, from, keyword, spelled);
            } else {
                put(letters == 0 && run <= 3 ? DIGITS : BROKEN, from, number, 0);
            }
            return run;
        }

        private void put(int newKind, int newPlace, int newValue, long newWord) {
            if (size < kinds.length) {
                kinds[size] = newKind;
                places[size] = newPlace;
                values[size] = newValue;
                words[size] = newWord;
                size++;
            }
        }

        private static int keywordOf(long word) {
            long spelled = 0;
            int keyword = 0;
            for (int i = 0; i < KEYWORDS.length(); i++) {
                char sign = KEYWORDS.charAt(i);
                if (sign != ' ') {
                    spelled = spelled << 8 | sign;
                } else if (spelled == word) {
                    return keyword;
                } else {
                    spelled = 0;
                    keyword++;
                }
            }
            return NONE;
        }

        private static boolean isLetter(int sign) {
            return sign >= 'a' && sign <= 'z';
        }

        private static boolean isDigit(int sign) {
            return sign >= '0' && sign <= '9';
        }

        private static boolean isMark(int sign) {
            return sign == ';' || sign == '(' || sign == ')' || sign == '<' || sign == '=' || sign == '>';
        }
    }

    /** What a BURGH's text tells; it stays the same all day long. */
    private static final class Burgh {
        int clocks = 0;
        int masters = 0;
        int meets = 0;
        int patience = WAIT_UNTOLD;
        final long[] clockName = new long[MOST];
        final int[] clockCorner = new int[MOST];
        final int[] clockAhead = new int[MOST];
        final int[] clockGain = new int[MOST];
        final long[] masterName = new long[MOST];
        final int[] masterCorner = new int[MOST];
        final int[] masterLate = new int[MOST];
        final int[] masterClock = new int[MOST];
        final int[] masterMeets = new int[MOST];
        final long[] meetName = new long[MOST];
        final int[] meetDue = new int[MOST];

        void clear() {
            clocks = 0;
            masters = 0;
            meets = 0;
            patience = WAIT_UNTOLD;
        }

        void copyFrom(Burgh other) {
            clocks = other.clocks;
            masters = other.masters;
            meets = other.meets;
            patience = other.patience;
            System.arraycopy(other.clockName, 0, clockName, 0, MOST);
            System.arraycopy(other.clockCorner, 0, clockCorner, 0, MOST);
            System.arraycopy(other.clockAhead, 0, clockAhead, 0, MOST);
            System.arraycopy(other.clockGain, 0, clockGain, 0, MOST);
            System.arraycopy(other.masterName, 0, masterName, 0, MOST);
            System.arraycopy(other.masterCorner, 0, masterCorner, 0, MOST);
            System.arraycopy(other.masterLate, 0, masterLate, 0, MOST);
            System.arraycopy(other.masterClock, 0, masterClock, 0, MOST);
            System.arraycopy(other.masterMeets, 0, masterMeets, 0, MOST);
            System.arraycopy(other.meetName, 0, meetName, 0, MOST);
            System.arraycopy(other.meetDue, 0, meetDue, 0, MOST);
        }

        boolean hasName(long name) {
            return indexOf(clockName, clocks, name) != NONE
                    || indexOf(masterName, masters, name) != NONE
                    || indexOf(meetName, meets, name) != NONE;
        }

        boolean isToCome(int m, int e) {
            return hasBit(masterMeets[m], e);
        }

        int mastersTo(int e) {
            int bits = 0;
            for (int m = 0; m < masters; m++) {
                if (isToCome(m, e)) {
                    bits |= 1 << m;
                }
            }
            return bits;
        }

        int mastersBy(int c) {
            int found = 0;
            for (int m = 0; m < masters; m++) {
                if (masterClock[m] == c) {
                    found++;
                }
            }
            return found;
        }

        static int indexOf(long[] names, int count, long name) {
            for (int i = 0; i < count && i < names.length; i++) {
                if (names[i] == name) {
                    return i;
                }
            }
            return NONE;
        }
    }

    /** All that goes on in a BURGH: how its CLOCKS go, who has set out and come, and which MINUTE it is. */
    private static final class Day {
        final Burgh burgh;
        int minute = 0;
        int out = 0;
        int stopped = 0;
        final int[] ahead = new int[MOST];
        final int[] since = new int[MOST];
        /** What a STOPPED CLOCK READS. */
        final int[] stood = new int[MOST];
        final int[] due = new int[MOST];
        /** In which MINUTE a MASTER set out to a MEET, came to it, by slot(); NONE: he has not. */
        final int[] left = new int[MOST * MOST];
        final int[] came = new int[MOST * MOST];

        Day(Burgh burgh) {
            this.burgh = burgh;
            Arrays.fill(left, NONE);
            Arrays.fill(came, NONE);
        }

        void begin() {
            minute = 0;
            out = 0;
            stopped = 0;
            System.arraycopy(burgh.clockAhead, 0, ahead, 0, MOST);
            Arrays.fill(since, 0);
            Arrays.fill(stood, 0);
            System.arraycopy(burgh.meetDue, 0, due, 0, MOST);
            Arrays.fill(left, NONE);
            Arrays.fill(came, NONE);
        }

        void copyFrom(Day other) {
            minute = other.minute;
            out = other.out;
            stopped = other.stopped;
            System.arraycopy(other.ahead, 0, ahead, 0, MOST);
            System.arraycopy(other.since, 0, since, 0, MOST);
            System.arraycopy(other.stood, 0, stood, 0, MOST);
            System.arraycopy(other.due, 0, due, 0, MOST);
            System.arraycopy(other.left, 0, left, 0, MOST * MOST);
            System.arraycopy(other.came, 0, came, 0, MOST * MOST);
        }

        boolean isStopped(int c) {
            return (stopped >> c & 1) != 0;
        }

        boolean isOut(int m) {
            return (out >> m & 1) != 0;
        }

        int minutesLeft() {
            return MINUTES - minute;
        }

        /** What a CLOCK READS at a MINUTE that is not ahead of this one, if nothing is done until then. */
        int reads(int c, int at) {
            if (isStopped(c)) {
                return stood[c];
            }
            return at + ahead[c] + burgh.clockGain[c] * ((at - since[c]) / HOUR);
        }

        int shows(int c, int at) {
            return Math.floorMod(reads(c, at), DIAL);
        }

        int wrongBy(int c) {
            return reads(c, minute) - minute;
        }

        int rightClocks() {
            int bits = 0;
            for (int c = 0; c < burgh.clocks; c++) {
                if (wrongBy(c) == 0) {
                    bits |= 1 << c;
                }
            }
            return bits;
        }

        boolean showAlike(int at) {
            for (int c = 1; c < burgh.clocks; c++) {
                if (shows(c, at) != shows(0, at)) {
                    return false;
                }
            }
            return true;
        }

        int whyNotSet(int m, int c) {
            if (isOut(m)) {
                return 1;
            }
            return isStopped(c) ? 2 : 0;
        }

        void adjust(int m, int c) {
            ahead[c] = -burgh.masterLate[m];
            since[c] = minute;
        }

        int whyNotStop(int c) {
            return isStopped(c) ? 1 : 0;
        }

        void halt(int c) {
            stood[c] = reads(c, minute);
            stopped |= 1 << c;
        }

        int whyNotStart(int c) {
            return isStopped(c) ? 0 : 1;
        }

        void resume(int c) {
            ahead[c] = wrongBy(c);
            since[c] = minute;
            stopped &= ~(1 << c);
        }

        int whyNotMove(int e, int to) {
            if (mastersIn(left, e) != 0) {
                return 1;
            }
            return to <= minute ? 2 : 0;
        }

        /** As many of n MINUTES as are left go by. */
        int pass(int n) {
            int went = Math.min(n, minutesLeft());
            int end = minute + went;
            for (int t = minute; t < end; t++) {
                t += Math.max(0, quietFrom(t));
                if (t < end) {
                    goThrough(t);
                }
            }
            minute = end;
            return went;
        }

        /** How many MINUTES from t on nobody sets out or comes for sure: so a day is gone through fast. */
        private int quietFrom(int t) {
            int quiet = MINUTES;
            for (int m = 0; m < burgh.masters; m++) {
                for (int e = 0; e < burgh.meets; e++) {
                    if (burgh.isToCome(m, e)) {
                        quiet = Math.min(quiet, quietOf(m, e, t));
                    }
                }
            }
            return quiet;
        }

        /** A CLOCK that goes READS one more each minute, until it gains or loses at the end of its hour. */
        private int quietOf(int m, int e, int t) {
            int s = slot(m, e);
            if (came[s] != NONE) {
                return MINUTES;
            }
            if (left[s] != NONE) {
                return Math.max(0, left[s] + burgh.masterCorner[m] - t);
            }
            if (isOut(m)) {
                return MINUTES;
            }
            int c = burgh.masterClock[m];
            int missing = due[e] + burgh.masterLate[m] - reads(c, t);
            if (missing <= 0) {
                return 0;
            }
            return isStopped(c) ? MINUTES : Math.min(missing, HOUR - (t - since[c]) % HOUR);
        }

        private void goThrough(int t) {
            for (int e = 0; e < burgh.meets; e++) {
                for (int m = 0; m < burgh.masters; m++) {
                    if (burgh.isToCome(m, e)) {
                        go(m, e, t);
                    }
                }
            }
        }

        private void go(int m, int e, int t) {
            int s = slot(m, e);
            if (!isOut(m) && left[s] == NONE
                    && reads(burgh.masterClock[m], t) >= due[e] + burgh.masterLate[m]) {
                left[s] = t;
            }
            if (left[s] != NONE && left[s] + burgh.masterCorner[m] == t) {
                came[s] = t;
                if (t <= due[e]) {
                    out |= 1 << m;
                }
            }
        }

        /** As many hours as are left, of n, DRAWN by a seed: how many MINUTES went by. */
        int passDrawn(int n, int seed) {
            int went = 0;
            int x = seed;
            for (int hour = 0; hour < n && minutesLeft() > 0; hour++) {
                x = nextSeed(x);
                int kind = drawOf(x, 4);
                if (kind == 0 && burgh.clocks > 0) {
                    x = nextSeed(x);
                    toggle(drawOf(x, burgh.clocks));
                } else if (kind == 1 && burgh.clocks > 0 && burgh.masters > 0) {
                    x = nextSeed(x);
                    int m = drawOf(x, burgh.masters);
                    x = nextSeed(x);
                    int c = drawOf(x, burgh.clocks);
                    if (whyNotSet(m, c) == 0) {
                        adjust(m, c);
                    }
                }
                went += pass(HOUR);
            }
            return went;
        }

        private void toggle(int c) {
            if (isStopped(c)) {
                resume(c);
            } else {
                halt(c);
            }
        }

        private static int nextSeed(int x) {
            return x * 1103515245 + 12345;
        }

        private static int drawOf(int x, int n) {
            return n > 0 ? (x >>> 8) % n : 0;
        }

        int mastersIn(int[] row, int e) {
            int bits = 0;
            for (int m = 0; m < burgh.masters; m++) {
                if (row[slot(m, e)] != NONE) {
                    bits |= 1 << m;
                }
            }
            return bits;
        }

        int meetsIn(int[] row, int m) {
            int bits = 0;
            for (int e = 0; e < burgh.meets; e++) {
                if (row[slot(m, e)] != NONE) {
                    bits |= 1 << e;
                }
            }
            return bits;
        }

        int cameBy(int e, int last) {
            int bits = 0;
            for (int m = 0; m < burgh.masters; m++) {
                int at = came[slot(m, e)];
                if (at != NONE && at <= last) {
                    bits |= 1 << m;
                }
            }
            return bits;
        }

        /** The MINUTE in which the last came; NONE: not all did, or nobody was to. */
        int lastComes(int e) {
            int last = NONE;
            for (int m = 0; m < burgh.masters; m++) {
                if (burgh.isToCome(m, e)) {
                    int at = came[slot(m, e)];
                    if (at == NONE) {
                        return NONE;
                    }
                    last = Math.max(last, at);
                }
            }
            return last;
        }

        int howOftenCame() {
            int often = 0;
            for (int e = 0; e < burgh.meets; e++) {
                often += Integer.bitCount(mastersIn(came, e));
            }
            return often;
        }

        int minutesBehind() {
            int behind = 0;
            for (int m = 0; m < burgh.masters; m++) {
                for (int e = 0; e < burgh.meets; e++) {
                    behind += behindDue(m, e);
                }
            }
            return behind;
        }

        int mostBehind(int m) {
            int most = 0;
            for (int e = 0; e < burgh.meets; e++) {
                most = Math.max(most, behindDue(m, e));
            }
            return most;
        }

        private int behindDue(int m, int e) {
            int at = came[slot(m, e)];
            return at == NONE ? 0 : Math.max(0, at - due[e]);
        }
    }

    /** A SENTENCE, each operation behind what it works on. */
    private static final class Sentence {
        private static final int KEYWORD_UNIT = 8192;
        private static final int SYMBOL_UNIT = 1024;

        int length = 0;
        final int[] code = new int[2 * MOST_ONES];
        private final int[] stack = new int[MOST_ONES];

        void clear() {
            length = 0;
        }

        void copyFrom(Sentence other) {
            length = other.length;
            System.arraycopy(other.code, 0, code, 0, code.length);
        }

        void put(int keyword, int symbol, int number) {
            if (length < code.length) {
                code[length] = keyword * KEYWORD_UNIT + (symbol - '<') * SYMBOL_UNIT + number;
                length++;
            }
        }

        /** The MASTERS of whom it may be said, as bits: all are judged at once. */
        int mastersSaid(Day day) {
            int top = 0;
            for (int i = 0; i < length; i++) {
                int keyword = code[i] / KEYWORD_UNIT;
                if (keyword == NOT && top > 0) {
                    stack[top - 1] = ~stack[top - 1];
                } else if (keyword == AND && top > 1) {
                    top--;
                    stack[top - 1] &= stack[top];
                } else if (keyword == OR && top > 1) {
                    top--;
                    stack[top - 1] |= stack[top];
                } else if (top < stack.length) {
                    stack[top] = mastersFor(code[i], day);
                    top++;
                }
            }
            return top > 0 ? stack[0] & (1 << day.burgh.masters) - 1 : 0;
        }

        private static int mastersFor(int single, Day day) {
            int bits = 0;
            for (int m = 0; m < day.burgh.masters; m++) {
                if (holds(single, day, m)) {
                    bits |= 1 << m;
                }
            }
            return bits;
        }

        private static boolean holds(int single, Day day, int m) {
            int number = single % SYMBOL_UNIT;
            int symbol = single % KEYWORD_UNIT / SYMBOL_UNIT + '<';
            switch (single / KEYWORD_UNIT) {
                case OUT:
                    return day.isOut(m);
                case GOING:
                    return day.meetsIn(day.left, m) != day.meetsIn(day.came, m);
                case RIGHT:
                    return day.wrongBy(day.burgh.masterClock[m]) == 0;
                case BY:
                    return day.burgh.masterClock[m] == number;
                case TO:
                    return day.burgh.isToCome(m, number);
                case LATE:
                    return compares(day.burgh.masterLate[m], symbol, number);
                case CORNER:
                    return compares(day.burgh.masterCorner[m], symbol, number);
                case CAME:
                    return compares(Integer.bitCount(day.meetsIn(day.came, m)), symbol, number);
                default:
                    return compares(m, symbol, number);
            }
        }

        private static boolean compares(int a, int symbol, int b) {
            if (symbol == '<') {
                return a < b;
            }
            return symbol == '=' ? a == b : a > b;
        }
    }

    /** All that an image keeps. */
    private static final class World {
        final Burgh burgh = new Burgh();
        final Day day = new Day(burgh);
        final Sentence sentence = new Sentence();
        boolean kept = false;

        void copyFrom(World other) {
            burgh.copyFrom(other.burgh);
            day.copyFrom(other.day);
            sentence.copyFrom(other.sentence);
        }
    }

    /** The days as they were ahead of the latest acts, in a ring. */
    private static final class History {
        private final Day[] days = new Day[UNDOABLE];
        private int next = 0;
        private int size = 0;

        History(Burgh burgh) {
            for (int i = 0; i < UNDOABLE; i++) {
                days[i] = new Day(burgh);
            }
        }

        void forget() {
            size = 0;
        }

        void keep(Day day) {
            days[next].copyFrom(day);
            next = (next + 1) % UNDOABLE;
            size = Math.min(size + 1, UNDOABLE);
        }

        int takeBack(Day day) {
            if (size == 0) {
                return NONE;
            }
            next = (next + UNDOABLE - 1) % UNDOABLE;
            day.copyFrom(days[next]);
            size--;
            return size;
        }
    }

    /** Reads the text of a BURGH into a draft. */
    private static final class BurghReader {
        final Burgh draft = new Burgh();
        private final Tokens in;
        private boolean waitTold = false;

        BurghReader(Tokens tokens) {
            in = tokens;
        }

        /** How many LINES, those of a text without a FAULT. */
        int read() {
            draft.clear();
            waitTold = false;
            in.open(BURGH_BYTES);
            int lines = 0;
            while (lines < BURGH_BYTES && !in.isAtEnd() && readLine() && in.takeSymbol(';')) {
                lines++;
            }
            return lines;
        }

        private boolean readLine() {
            if (in.isKeyword(CLOCK)) {
                return readClock();
            }
            if (in.isKeyword(MASTER)) {
                return readMaster();
            }
            if (in.isKeyword(MEET)) {
                return readMeet();
            }
            if (in.isKeyword(COMES)) {
                return readComes();
            }
            return readWait();
        }

        private boolean readClock() {
            int c = draft.clocks;
            if (c >= MOST) {
                return in.refuse(ONE_TOO_MANY);
            }
            in.advance();
            if (!takeNewName(draft.clockName, c)) {
                return false;
            }
            int corner = in.takeNumber(0, 30);
            if (corner == NONE) {
                return false;
            }
            draft.clockCorner[c] = corner;
            draft.clockAhead[c] = readTurn(FAST, SLOW, 99);
            draft.clockGain[c] = in.fault == 0 ? readTurn(GAINS, LOSES, 9) : 0;
            draft.clocks = c + 1;
            return in.fault == 0;
        }

        /** 0, if none of the two words is here. */
        private int readTurn(int more, int less, int greatest) {
            boolean isMore = in.isKeyword(more);
            if (!isMore && !in.isKeyword(less)) {
                return 0;
            }
            in.advance();
            int number = in.takeNumber(1, greatest);
            return isMore ? number : -number;
        }

        private boolean readMaster() {
            int m = draft.masters;
            if (m >= MOST) {
                return in.refuse(ONE_TOO_MANY);
            }
            in.advance();
            if (!takeNewName(draft.masterName, m)) {
                return false;
            }
            int corner = in.takeNumber(0, 30);
            if (corner == NONE) {
                return false;
            }
            int late = in.takeNumber(1, 60);
            if (late == NONE) {
                return false;
            }
            draft.masterCorner[m] = corner;
            draft.masterLate[m] = late;
            draft.masterMeets[m] = 0;
            draft.masters = m + 1;
            int c = in.findName(draft.clockName, draft.clocks);
            in.advance();
            draft.masterClock[m] = Math.max(c, 0);
            return c != NONE;
        }

        private boolean readMeet() {
            int e = draft.meets;
            if (e >= MOST) {
                return in.refuse(ONE_TOO_MANY);
            }
            in.advance();
            if (!takeNewName(draft.meetName, e)) {
                return false;
            }
            draft.meetDue[e] = in.takeNumber(0, 999);
            draft.meets = e + 1;
            return in.fault == 0;
        }

        private boolean readComes() {
            in.advance();
            int m = in.findName(draft.masterName, draft.masters);
            if (m == NONE) {
                return false;
            }
            in.advance();
            int e = in.findName(draft.meetName, draft.meets);
            if (e == NONE) {
                return false;
            }
            if (draft.isToCome(m, e)) {
                return in.refuse(BAD_NAME);
            }
            draft.masterMeets[m] |= 1 << e;
            in.advance();
            return true;
        }

        private boolean readWait() {
            if (!in.isKeyword(WAIT)) {
                return in.refuse(CANNOT_COME);
            }
            if (waitTold) {
                return in.refuse(BAD_NAME);
            }
            waitTold = true;
            in.advance();
            draft.patience = in.takeNumber(0, 99);
            return in.fault == 0;
        }

        private boolean takeNewName(long[] names, int i) {
            if (in.kind != Tokens.NAME) {
                return in.refuse(CANNOT_COME);
            }
            if (draft.hasName(in.word)) {
                return in.refuse(BAD_NAME);
            }
            names[i] = in.word;
            in.advance();
            return true;
        }
    }

    /** Reads a BOOK, judges it on a day, and remembers what is told of it. */
    private static final class Book {
        private final Tokens in;
        private final Burgh burgh;
        private int lines = 0;
        private final int[] verb = new int[BOOK_LINES];
        /** The MASTER, CLOCK or MEET of a LINE that has one. */
        private final int[] who = new int[BOOK_LINES];
        /** The CLOCK that is SET, the NUMBER. */
        private final int[] what = new int[BOOK_LINES];
        boolean judged = false;
        int why = 0;
        int good = 0;
        int minuteThen = 0;
        int outThen = 0;

        Book(Tokens tokens, Burgh burgh) {
            in = tokens;
            this.burgh = burgh;
        }

        void read() {
            lines = 0;
            in.open(BOOK_BYTES);
            while (lines <= BOOK_LINES && !in.isAtEnd() && readLine() && in.takeSymbol(';')) {
                lines++;
            }
        }

        private boolean readLine() {
            int master = NONE;
            if (in.kind == Tokens.NAME) {
                master = in.findName(burgh.masterName, burgh.masters);
                if (master == NONE) {
                    return false;
                }
            } else if (in.kind != Tokens.KEYWORD || in.value < STOP || in.value > MINUTE) {
                return in.refuse(CANNOT_COME);
            }
            if (lines >= BOOK_LINES) {
                return in.refuse(ONE_TOO_MANY);
            }
            int keyword = in.value;
            in.advance();
            return master == NONE ? readAct(keyword) : readSets(master);
        }

        private boolean readSets(int master) {
            if (!in.isKeyword(SETS)) {
                return in.refuse(CANNOT_COME);
            }
            in.advance();
            int c = in.findName(burgh.clockName, burgh.clocks);
            in.advance();
            return c != NONE && write(SETS, master, c);
        }

        private boolean readAct(int keyword) {
            if (keyword == MINUTE) {
                int n = in.takeNumber(1, 999);
                return n != NONE && write(MINUTE, 0, n);
            }
            if (keyword == MOVE) {
                int e = in.findName(burgh.meetName, burgh.meets);
                if (e == NONE) {
                    return false;
                }
                in.advance();
                int due = in.takeNumber(0, 999);
                return due != NONE && write(MOVE, e, due);
            }
            int c = in.findName(burgh.clockName, burgh.clocks);
            in.advance();
            return c != NONE && write(keyword, c, 0);
        }

        /** Always true, so that a reader can answer by it. */
        private boolean write(int act, int subject, int object) {
            verb[lines] = act;
            who[lines] = subject;
            what[lines] = object;
            return true;
        }

        /** The day goes on by the LINES ahead of the first that is WRONG. */
        void judge(Day day) {
            judged = true;
            why = 0;
            good = 0;
            while (good < lines && why == 0) {
                why = whyNot(day, good);
                if (why == 0) {
                    live(day, good);
                    good++;
                }
            }
            minuteThen = day.minute;
            outThen = day.out;
        }

        private int whyNot(Day day, int line) {
            int a = who[line];
            int b = what[line];
            switch (verb[line]) {
                case SETS:
                    return day.whyNotSet(a, b);
                case STOP:
                    return day.whyNotStop(a) == 0 ? 0 : 11;
                case START:
                    return day.whyNotStart(a) == 0 ? 0 : 21;
                case MOVE:
                    int moving = day.whyNotMove(a, b);
                    return moving == 0 ? 0 : 30 + moving;
                default:
                    return b > day.minutesLeft() ? 41 : 0;
            }
        }

        private void live(Day day, int line) {
            int a = who[line];
            int b = what[line];
            switch (verb[line]) {
                case SETS:
                    day.adjust(a, b);
                    break;
                case STOP:
                    day.halt(a);
                    break;
                case START:
                    day.resume(a);
                    break;
                case MOVE:
                    day.due[a] = b;
                    break;
                default:
                    day.pass(b);
                    break;
            }
        }
    }

    /** Reads a SENTENCE into a draft; each part's depth is how many ONES it is within. */
    private static final class SentenceReader {
        final Sentence draft = new Sentence();
        private final Tokens in;
        private final Burgh burgh;
        private int ones = 0;

        SentenceReader(Tokens tokens, Burgh burgh) {
            in = tokens;
            this.burgh = burgh;
        }

        /** How many ONES, those of a text without a FAULT. */
        int read() {
            draft.clear();
            ones = 0;
            in.open(SENTENCE_BYTES);
            if (readCondition(0) && !in.isAtEnd()) {
                in.refuse(CANNOT_COME);
            }
            return ones;
        }

        private boolean readCondition(int depth) {
            boolean fine = readConjunction(depth);
            for (int i = 0; i <= MOST_ONES && fine && in.isKeyword(OR); i++) {
                in.advance();
                fine = readConjunction(depth);
                draft.put(OR, '<', 0);
            }
            return fine;
        }

        private boolean readConjunction(int depth) {
            boolean fine = readOne(depth);
            for (int i = 0; i <= MOST_ONES && fine && in.isKeyword(AND); i++) {
                in.advance();
                fine = readOne(depth);
                draft.put(AND, '<', 0);
            }
            return fine;
        }

        private boolean readOne(int depth) {
            boolean isBracket = in.isSymbol('(');
            if (!isBracket && (in.kind != Tokens.KEYWORD || in.value < NOT || in.value > NUMBER)) {
                return in.refuse(CANNOT_COME);
            }
            if (ones >= MOST_ONES || depth >= MOST_WITHIN) {
                return in.refuse(ONE_TOO_MANY);
            }
            ones++;
            int keyword = in.value;
            in.advance();
            if (isBracket) {
                return readCondition(depth + 1) && in.takeSymbol(')');
            }
            if (keyword == NOT) {
                boolean fine = readOne(depth + 1);
                draft.put(NOT, '<', 0);
                return fine;
            }
            if (keyword >= LATE) {
                return readComparison(keyword);
            }
            return readSingle(keyword);
        }

        private boolean readSingle(int keyword) {
            int number = 0;
            if (keyword == BY) {
                number = in.findName(burgh.clockName, burgh.clocks);
                in.advance();
            } else if (keyword == TO) {
                number = in.findName(burgh.meetName, burgh.meets);
                in.advance();
            }
            draft.put(keyword, '<', Math.max(number, 0));
            return number != NONE;
        }

        private boolean readComparison(int keyword) {
            int symbol = in.value;
            if (!in.isSymbol('<') && !in.isSymbol('=') && !in.isSymbol('>')) {
                return in.refuse(CANNOT_COME);
            }
            in.advance();
            int number = in.takeNumber(0, 999);
            draft.put(keyword, symbol, Math.max(number, 0));
            return number != NONE;
        }
    }

    /** TIME by the CLOCKS that are told of on the tape, and what it told last. */
    private static final class Watch {
        int first = NONE;
        int bestClock = NONE;
        private final int[] found = new int[SPAN];
        private final int[] tally = new int[DIAL];

        int search(Day day, Tape tape) {
            if (!isAsTold(day, tape)) {
                return NONE;
            }
            int size = 0;
            for (int k = 0; k < SPAN; k++) {
                if (allShow(day, tape, day.minute + k)) {
                    found[size] = day.minute + k;
                    size++;
                }
            }
            if (size > 0) {
                first = found[0];
                bestClock = clockToLookAt(day, size);
            }
            return size;
        }

        private static boolean isAsTold(Day day, Tape tape) {
            if (tape.length < 3 || tape.length > 15 || tape.length % 3 != 0) {
                return false;
            }
            for (int i = 0; i < tape.length; i += 3) {
                if (tape.at(i) >= day.burgh.clocks || tape.at(i + 1) > 11 || tape.at(i + 2) > 59) {
                    return false;
                }
            }
            return true;
        }

        private static boolean allShow(Day day, Tape tape, int at) {
            for (int i = 0; i < tape.length; i += 3) {
                if (day.shows(tape.at(i), at) != tape.at(i + 1) * HOUR + tape.at(i + 2)) {
                    return false;
                }
            }
            return true;
        }

        private int clockToLookAt(Day day, int size) {
            int best = NONE;
            int fewest = SPAN + 1;
            for (int c = 0; c < day.burgh.clocks; c++) {
                int most = mostLeft(day, c, size);
                if (most < fewest) {
                    fewest = most;
                    best = c;
                }
            }
            return best;
        }

        private int mostLeft(Day day, int c, int size) {
            Arrays.fill(tally, 0);
            int most = 0;
            for (int i = 0; i < size; i++) {
                int shown = day.shows(c, found[i]);
                tally[shown]++;
                most = Math.max(most, tally[shown]);
            }
            return most;
        }
    }
}
