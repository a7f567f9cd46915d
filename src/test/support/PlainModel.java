import java.util.ArrayList;
import java.util.List;
import java.util.NoSuchElementException;
import java.util.Set;
import java.util.TreeMap;

/** The document once more, as plainly as can be and without regard to speed, to hold LateMasters against. */
final class PlainModel {
    static final int NONE = -1;
    static final Set<String> RESERVED = Set.of("clock", "fast", "slow", "gains", "loses", "master", "meet",
            "comes", "wait", "sets", "stop", "start", "move", "minute", "or", "and", "not", "out", "going",
            "right", "by", "to", "late", "corner", "came", "number");

    static final class Fault extends RuntimeException {
        private static final long serialVersionUID = 1L;
        final int kind;
        final int place;

        Fault(int kind, int place) {
            super("fault", null, false, false);
            this.kind = kind;
            this.place = place;
        }
    }

    record Token(char kind, String text, int place) {
    }

    static final class Clock {
        String name;
        int corner;
        int ahead;
        int gain;
        int since;
        boolean stopped;
        int stood;

        Clock copy() {
            Clock c = new Clock();
            c.name = name;
            c.corner = corner;
            c.ahead = ahead;
            c.gain = gain;
            c.since = since;
            c.stopped = stopped;
            c.stood = stood;
            return c;
        }

        int reads(int t) {
            if (stopped) {
                return stood;
            }
            int read = t + ahead;
            for (int k = since + 60; k <= t; k += 60) {
                read += gain;
            }
            return read;
        }

        int shows(int t) {
            int read = reads(t);
            while (read < 0) {
                read += 720;
            }
            return read % 720;
        }
    }

    static final class Master {
        String name;
        int corner;
        int late;
        int clock;
        boolean out;
        TreeMap<Integer, Integer> left = new TreeMap<>();
        TreeMap<Integer, Integer> came = new TreeMap<>();
        List<Integer> to = new ArrayList<>();

        Master copy() {
            Master m = new Master();
            m.name = name;
            m.corner = corner;
            m.late = late;
            m.clock = clock;
            m.out = out;
            m.left.putAll(left);
            m.came.putAll(came);
            m.to.addAll(to);
            return m;
        }
    }

    static final class Meet {
        String name;
        int due;

        Meet copy() {
            Meet e = new Meet();
            e.name = name;
            e.due = due;
            return e;
        }
    }

    static final class State {
        List<Clock> clocks = new ArrayList<>();
        List<Master> masters = new ArrayList<>();
        List<Meet> meets = new ArrayList<>();
        int wait = 15;
        int minute;
        List<Token> sentence;

        State copy() {
            State s = new State();
            for (Clock c : clocks) {
                s.clocks.add(c.copy());
            }
            for (Master m : masters) {
                s.masters.add(m.copy());
            }
            for (Meet e : meets) {
                s.meets.add(e.copy());
            }
            s.wait = wait;
            s.minute = minute;
            s.sentence = sentence;
            return s;
        }

        int clock(String name) {
            for (int i = 0; i < clocks.size(); i++) {
                if (clocks.get(i).name.equals(name)) {
                    return i;
                }
            }
            return NONE;
        }

        int master(String name) {
            for (int i = 0; i < masters.size(); i++) {
                if (masters.get(i).name.equals(name)) {
                    return i;
                }
            }
            return NONE;
        }

        int meet(String name) {
            for (int i = 0; i < meets.size(); i++) {
                if (meets.get(i).name.equals(name)) {
                    return i;
                }
            }
            return NONE;
        }

        void goMinute() {
            for (int e = 0; e < meets.size(); e++) {
                for (Master m : masters) {
                    if (!m.to.contains(e)) {
                        continue;
                    }
                    int due = meets.get(e).due;
                    if (!m.out && !m.left.containsKey(e) && clocks.get(m.clock).reads(minute) >= due + m.late) {
                        m.left.put(e, minute);
                    }
                    if (m.left.containsKey(e) && m.left.get(e) + m.corner == minute) {
                        m.came.put(e, minute);
                        if (minute <= due) {
                            m.out = true;
                        }
                    }
                }
            }
            minute++;
        }

        int go(int n) {
            int went = 0;
            while (went < n && minute < 2000) {
                goMinute();
                went++;
            }
            return went;
        }

        int set(int m, int c) {
            Clock clock = clocks.get(c);
            if (masters.get(m).out) {
                return 1;
            }
            if (clock.stopped) {
                return 2;
            }
            clock.ahead = -masters.get(m).late;
            clock.since = minute;
            return 0;
        }

        int stop(int c) {
            Clock clock = clocks.get(c);
            if (clock.stopped) {
                return 1;
            }
            clock.stood = clock.reads(minute);
            clock.stopped = true;
            return 0;
        }

        int start(int c) {
            Clock clock = clocks.get(c);
            if (!clock.stopped) {
                return 1;
            }
            clock.ahead = clock.stood - minute;
            clock.since = minute;
            clock.stopped = false;
            return 0;
        }

        int move(int e, int due) {
            for (Master m : masters) {
                if (m.left.containsKey(e)) {
                    return 1;
                }
            }
            if (due <= minute) {
                return 2;
            }
            meets.get(e).due = due;
            return 0;
        }

        int drawn(int n, int seed) {
            int[] x = {seed};
            int went = 0;
            for (int h = 0; h < n && minute < 2000; h++) {
                int d = draw(x, 4);
                if (d == 0 && !clocks.isEmpty()) {
                    int c = draw(x, clocks.size());
                    if (start(c) != 0) {
                        stop(c);
                    }
                }
                if (d == 1 && !clocks.isEmpty() && !masters.isEmpty()) {
                    int m = draw(x, masters.size());
                    set(m, draw(x, clocks.size()));
                }
                went += go(60);
            }
            return went;
        }

        static int draw(int[] x, int n) {
            x[0] = x[0] * 1103515245 + 12345;
            return (x[0] >>> 8) % n;
        }
    }

    StringBuilder tape = new StringBuilder();
    State s = new State();
    List<State> undo = new ArrayList<>();
    State[] images = new State[2];
    int fault;
    int first = NONE;
    int look = NONE;
    int by = NONE;
    String face = "";
    int[] told;

    static List<Token> tokens(String text, int most) {
        List<Token> tokens = new ArrayList<>();
        int i = 0;
        while (true) {
            while (i < text.length() && (text.charAt(i) == ' ' || text.charAt(i) == '\n')) {
                i++;
            }
            if (text.length() > most && i >= most) {
                tokens.add(new Token('!', "", most));
                return tokens;
            }
            if (i >= text.length()) {
                tokens.add(new Token('$', "", text.length()));
                return tokens;
            }
            int from = i;
            while (i < text.length() && String.valueOf(text.charAt(i)).matches("[a-z0-9]")) {
                i++;
            }
            if (i == from) {
                i++;
            }
            String token = text.substring(from, i);
            if (token.matches("[a-z]{1,7}")) {
                tokens.add(new Token(RESERVED.contains(token) ? 'k' : 'n', token, from));
            } else if (token.matches("[0-9]{1,3}")) {
                tokens.add(new Token('#', token, from));
            } else if (token.matches("[;<=>()]")) {
                tokens.add(new Token(token.charAt(0), token, from));
            } else {
                tokens.add(new Token('!', token, from));
                return tokens;
            }
        }
    }

    /** Takes TOKENS from a list; a FAULT is thrown. */
    static class Parser {
        final List<Token> list;
        int i;

        Parser(List<Token> list) {
            this.list = list;
        }

        Token peek() {
            return list.get(i);
        }

        boolean at(String word) {
            return peek().kind != '!' && peek().text.equals(word) && !word.isEmpty();
        }

        Token next(char kind) {
            Token t = peek();
            if (t.kind != kind) {
                throw new Fault(1, t.place);
            }
            i++;
            return t;
        }

        int number(int low, int high) {
            Token t = next('#');
            int n = Integer.parseInt(t.text);
            if (n < low || n > high) {
                throw new Fault(2, t.place);
            }
            return n;
        }

        int known(int found, Token t) {
            if (found == NONE) {
                throw new Fault(3, t.place);
            }
            return found;
        }

        void word(String w) {
            if (!at(w)) {
                throw new Fault(1, peek().place);
            }
            i++;
        }
    }

    int burghLines(State b, String text) {
        Parser p = new Parser(tokens(text, 900));
        int lines = 0;
        boolean waited = false;
        for (; p.peek().kind != '$'; lines++) {
            Token head = p.peek();
            if (p.at("clock")) {
                more(b.clocks.size(), head);
                p.i++;
                Clock c = new Clock();
                c.name = fresh(b, p);
                c.corner = p.number(0, 30);
                if (p.at("fast") || p.at("slow")) {
                    int sign = p.at("fast") ? 1 : -1;
                    p.i++;
                    c.ahead = sign * p.number(1, 99);
                }
                if (p.at("gains") || p.at("loses")) {
                    int sign = p.at("gains") ? 1 : -1;
                    p.i++;
                    c.gain = sign * p.number(1, 9);
                }
                b.clocks.add(c);
            } else if (p.at("master")) {
                more(b.masters.size(), head);
                p.i++;
                Master m = new Master();
                m.name = fresh(b, p);
                m.corner = p.number(0, 30);
                m.late = p.number(1, 60);
                Token c = p.next('n');
                m.clock = p.known(b.clock(c.text), c);
                b.masters.add(m);
            } else if (p.at("meet")) {
                more(b.meets.size(), head);
                p.i++;
                Meet e = new Meet();
                e.name = fresh(b, p);
                e.due = p.number(0, 999);
                b.meets.add(e);
            } else if (p.at("comes")) {
                p.i++;
                Token m = p.next('n');
                Master master = b.masters.get(p.known(b.master(m.text), m));
                Token e = p.next('n');
                int meet = p.known(b.meet(e.text), e);
                if (master.to.contains(meet)) {
                    throw new Fault(3, e.place);
                }
                master.to.add(meet);
            } else if (p.at("wait")) {
                if (waited) {
                    throw new Fault(3, head.place);
                }
                waited = true;
                p.i++;
                b.wait = p.number(0, 99);
            } else {
                throw new Fault(1, head.place);
            }
            p.next(';');
        }
        return lines;
    }

    static void more(int has, Token head) {
        if (has == 6) {
            throw new Fault(4, head.place);
        }
    }

    static String fresh(State b, Parser p) {
        Token t = p.next('n');
        if (b.clock(t.text) != NONE || b.master(t.text) != NONE || b.meet(t.text) != NONE) {
            throw new Fault(3, t.place);
        }
        return t.text;
    }

    String takeTape() {
        String text = tape.toString();
        tape.setLength(0);
        return text;
    }

    void remember(State before) {
        undo.add(before);
        if (undo.size() > 8) {
            undo.remove(0);
        }
    }

    int feed(int a, int b, int c, int d, int e) {
        if (tape.length() + 20 > 940) {
            return NONE;
        }
        for (int n : new int[] {a, b, c, d, e}) {
            tape.append((char) (n >>> 24)).append((char) (n >>> 16 & 255));
            tape.append((char) (n >>> 8 & 255)).append((char) (n & 255));
        }
        return tape.length();
    }

    boolean end(int n) {
        if (n < 0 || n > tape.length()) {
            return false;
        }
        tape.setLength(n);
        return true;
    }

    int burgh() {
        State b = new State();
        try {
            int lines = burghLines(b, takeTape());
            s = b;
            undo.clear();
            fault = 0;
            return lines;
        } catch (Fault f) {
            fault = f.kind;
            return -1 - f.place;
        }
    }

    boolean isClock(int c) {
        return c >= 0 && c < s.clocks.size();
    }

    boolean isMaster(int m) {
        return m >= 0 && m < s.masters.size();
    }

    boolean isMeet(int e) {
        return e >= 0 && e < s.meets.size();
    }

    int clock(int c, int what) {
        if (!isClock(c)) {
            return NONE;
        }
        Clock k = s.clocks.get(c);
        return switch (what) {
            case 0 -> k.corner;
            case 1 -> k.gain;
            case 2 -> k.stopped ? 1 : 0;
            case 3 -> k.shows(s.minute);
            case 4 -> (int) s.masters.stream().filter(m -> m.clock == c).count();
            default -> NONE;
        };
    }

    int wrong(int c) {
        if (!isClock(c)) {
            throw new NoSuchElementException();
        }
        return s.clocks.get(c).reads(s.minute) - s.minute;
    }

    static int bits(Iterable<Integer> numbers) {
        int bits = 0;
        for (int n : numbers) {
            bits |= 1 << n;
        }
        return bits;
    }

    int master(int m, int what) {
        if (!isMaster(m)) {
            throw new NoSuchElementException();
        }
        Master k = s.masters.get(m);
        return switch (what) {
            case 0 -> k.corner;
            case 1 -> k.late;
            case 2 -> k.clock;
            case 3 -> k.out ? 1 : 0;
            case 4 -> bits(k.to);
            case 5 -> bits(k.left.keySet());
            case 6 -> bits(k.came.keySet());
            default -> throw new NoSuchElementException();
        };
    }

    int meet(int e, int what) {
        if (!isMeet(e) || what < 0 || what > 3) {
            return NONE;
        }
        int bits = 0;
        for (int m = 0; m < s.masters.size(); m++) {
            Master k = s.masters.get(m);
            boolean in = what == 1 && k.to.contains(e) || what == 2 && k.left.containsKey(e)
                    || what == 3 && k.came.containsKey(e);
            bits += in ? 1 << m : 0;
        }
        return what == 0 ? s.meets.get(e).due : bits;
    }

    int now(int what) {
        int bits = 0;
        switch (what) {
            case 0:
                return s.minute;
            case 1:
                for (int m = 0; m < s.masters.size(); m++) {
                    bits += s.masters.get(m).out ? 1 << m : 0;
                }
                return bits;
            case 2:
                for (int c = 0; c < s.clocks.size(); c++) {
                    bits += s.clocks.get(c).stopped ? 1 << c : 0;
                }
                return bits;
            case 3:
                for (int c = 0; c < s.clocks.size(); c++) {
                    bits += wrong(c) == 0 ? 1 << c : 0;
                }
                return bits;
            case 4:
                for (Master m : s.masters) {
                    bits += m.came.size();
                }
                return bits;
            case 5:
                for (Master m : s.masters) {
                    for (int e : m.came.keySet()) {
                        bits += Math.max(0, m.came.get(e) - s.meets.get(e).due);
                    }
                }
                return bits;
            default:
                return NONE;
        }
    }

    int act(int why, State before) {
        if (why == 0) {
            remember(before);
        }
        return why;
    }

    int set(int m, int c) {
        State before = s.copy();
        return isMaster(m) && isClock(c) ? act(s.set(m, c), before) : NONE;
    }

    int stop(int c) {
        State before = s.copy();
        return isClock(c) ? act(s.stop(c), before) : NONE;
    }

    int start(int c) {
        State before = s.copy();
        return isClock(c) ? act(s.start(c), before) : NONE;
    }

    int move(int e, int due) {
        State before = s.copy();
        return isMeet(e) && due >= 0 && due <= 1999 ? act(s.move(e, due), before) : NONE;
    }

    int minutes(int n) {
        if (n < 1 || n > 999) {
            return NONE;
        }
        State before = s.copy();
        int went = s.go(n);
        if (went > 0) {
            remember(before);
        }
        return went;
    }

    int undo() {
        if (undo.isEmpty()) {
            return NONE;
        }
        List<Token> sentence = s.sentence;
        s = undo.remove(undo.size() - 1);
        s.sentence = sentence;
        return undo.size();
    }

    State future() {
        State f = s.copy();
        f.go(2000);
        return f;
    }

    int comes(int m, int e) {
        return isMaster(m) && isMeet(e) ? future().masters.get(m).came.getOrDefault(e, NONE) : NONE;
    }

    static int allOf(State f, int e) {
        int last = NONE;
        for (Master m : f.masters) {
            if (m.to.contains(e)) {
                if (!m.came.containsKey(e)) {
                    return NONE;
                }
                last = Math.max(last, m.came.get(e));
            }
        }
        return last;
    }

    int all(int e) {
        return isMeet(e) ? allOf(future(), e) : NONE;
    }

    int missed(int e) {
        if (!isMeet(e)) {
            return NONE;
        }
        State f = future();
        int bits = 0;
        for (int m = 0; m < f.masters.size(); m++) {
            Master k = f.masters.get(m);
            boolean is = k.to.contains(e) && k.came.getOrDefault(e, 9999) > f.meets.get(e).due + f.wait;
            bits += is ? 1 << m : 0;
        }
        return bits;
    }

    int caught(int e) {
        if (!isMeet(e)) {
            return NONE;
        }
        State f = future();
        int bits = 0;
        for (int m = 0; m < f.masters.size(); m++) {
            bits += f.masters.get(m).came.getOrDefault(e, 9999) <= f.meets.get(e).due ? 1 << m : 0;
        }
        return bits;
    }

    int plan(int e, int n) {
        if (!isMeet(e) || n < 0 || n > 240) {
            return NONE;
        }
        int most = 0;
        for (Clock c : s.clocks) {
            for (int t = s.minute; t <= s.minute + n; t++) {
                most = Math.max(most, c.reads(t));
            }
        }
        for (int due = 1999; due > s.minute; due--) {
            State f = s.copy();
            if (f.move(e, due) != 0) {
                return NONE;
            }
            // Nobody's CLOCK READS so much until then: such a DUE need not be gone through.
            if (due > most) {
                continue;
            }
            f.go(n + 1);
            int all = allOf(f, e);
            if (all != NONE && all <= s.minute + n) {
                return due;
            }
        }
        return NONE;
    }

    int time() {
        String text = takeTape();
        int n = text.length();
        if (n % 3 != 0 || n == 0 || n > 15) {
            return NONE;
        }
        for (int i = 0; i < n; i += 3) {
            if (!isClock(text.charAt(i)) || text.charAt(i + 1) > 11 || text.charAt(i + 2) > 59) {
                return NONE;
            }
        }
        List<Integer> found = new ArrayList<>();
        for (int t = s.minute; t <= s.minute + 1439; t++) {
            boolean fits = true;
            for (int i = 0; i < n; i += 3) {
                fits &= s.clocks.get(text.charAt(i)).shows(t) == text.charAt(i + 1) * 60 + text.charAt(i + 2);
            }
            if (fits) {
                found.add(t);
            }
        }
        if (!found.isEmpty()) {
            first = found.get(0);
            int least = 99999;
            for (int c = 0; c < s.clocks.size(); c++) {
                TreeMap<Integer, Integer> groups = new TreeMap<>();
                for (int t : found) {
                    groups.merge(s.clocks.get(c).shows(t), 1, Integer::sum);
                }
                int most = groups.values().stream().max(Integer::compare).get();
                if (most < least) {
                    least = most;
                    look = c;
                }
            }
        }
        return found.size();
    }

    int alike() {
        for (int k = 0; k < 1440 && !s.clocks.isEmpty(); k++) {
            int t = s.minute + k;
            if (s.clocks.stream().map(c -> c.shows(t)).distinct().count() == 1) {
                return k;
            }
        }
        return NONE;
    }

    int tend(int m, int n) {
        if (!isMaster(m) || n < 0 || n > 99) {
            return NONE;
        }
        List<Integer> corners = new ArrayList<>();
        for (int c = 0; c < s.clocks.size(); c++) {
            if (Math.abs(wrong(c)) > n) {
                corners.add(s.clocks.get(c).corner);
            }
        }
        return fewest(s.masters.get(m).corner, corners);
    }

    /** Each order is tried. */
    static int fewest(int from, List<Integer> corners) {
        int best = corners.isEmpty() ? 0 : 9999;
        for (int i = 0; i < corners.size(); i++) {
            List<Integer> rest = new ArrayList<>(corners);
            int to = rest.remove(i);
            best = Math.min(best, Math.abs(from - to) + fewest(to, rest));
        }
        return best;
    }

    int worst() {
        int worst = NONE;
        for (int c = s.clocks.size() - 1; c >= 0; c--) {
            if (wrong(c) != 0 && (worst == NONE || Math.abs(wrong(c)) >= Math.abs(wrong(worst)))) {
                worst = c;
            }
        }
        return worst;
    }

    int latest() {
        int latest = NONE;
        int most = 0;
        for (int m = 0; m < s.masters.size(); m++) {
            for (int e : s.masters.get(m).came.keySet()) {
                int behind = s.masters.get(m).came.get(e) - s.meets.get(e).due;
                if (behind > most) {
                    most = behind;
                    latest = m;
                    by = most;
                }
            }
        }
        return latest;
    }

    int mean(int what) {
        if (now(4) == 0 || what < 0 || what > 1) {
            throw new NoSuchElementException();
        }
        int g = java.math.BigInteger.valueOf(now(4)).gcd(java.math.BigInteger.valueOf(now(5))).intValue();
        return now(5 - what) / g;
    }

    int face(int c) {
        if (!isClock(c)) {
            return NONE;
        }
        Clock k = s.clocks.get(c);
        int shown = k.shows(s.minute);
        face = k.name + String.format(" shows %d.%02d", shown / 60, shown % 60) + (k.stopped ? " stopped" : "");
        return face.length();
    }

    int byteAt(int i) {
        return i >= 0 && i < face.length() ? face.charAt(i) : NONE;
    }

    int drawn(int n, int seed) {
        if (n < 1 || n > 24) {
            return NONE;
        }
        State before = s.copy();
        int went = s.drawn(n, seed);
        if (went > 0) {
            remember(before);
        }
        return went;
    }

    int odds(int m, int n, int seed) {
        if (!isMaster(m) || n < 1 || n > 20) {
            return NONE;
        }
        int found = 0;
        for (int x = seed, k = 0; k < n; x++, k++) {
            State f = s.copy();
            f.drawn(6, x);
            found += f.masters.get(m).out ? 1 : 0;
        }
        return found;
    }

    List<List<Token>> bookLines(String text) {
        Parser p = new Parser(tokens(text, 400));
        List<List<Token>> lines = new ArrayList<>();
        while (p.peek().kind != '$') {
            Token head = p.peek();
            int from = p.i;
            if (head.kind == 'n') {
                p.known(s.master(head.text), head);
            } else if (!p.at("stop") && !p.at("start") && !p.at("move") && !p.at("minute")) {
                throw new Fault(1, head.place);
            }
            if (lines.size() == 40) {
                throw new Fault(4, head.place);
            }
            p.i++;
            if (head.text.equals("minute")) {
                p.number(1, 999);
            } else if (head.text.equals("move")) {
                Token e = p.next('n');
                p.known(s.meet(e.text), e);
                p.number(0, 999);
            } else {
                if (head.kind == 'n') {
                    p.word("sets");
                }
                Token c = p.next('n');
                p.known(s.clock(c.text), c);
            }
            lines.add(p.list.subList(from, p.i));
            p.next(';');
        }
        return lines;
    }

    int bookLine(State f, List<Token> line) {
        String head = line.get(0).text;
        String second = line.get(1).text;
        switch (head) {
            case "minute":
                int n = Integer.parseInt(second);
                if (f.minute + n > 2000) {
                    return 41;
                }
                f.go(n);
                return 0;
            case "move":
                int why = f.move(f.meet(second), Integer.parseInt(line.get(2).text));
                return why == 0 ? 0 : 30 + why;
            case "stop":
                return f.stop(f.clock(second)) * 11;
            case "start":
                return f.start(f.clock(second)) * 21;
            default:
                return f.set(f.master(head), f.clock(line.get(2).text));
        }
    }

    int book(int lives) {
        if (lives != 0 && lives != 1) {
            return -1000;
        }
        try {
            List<List<Token>> lines = bookLines(takeTape());
            fault = 0;
            State before = s;
            State f = s.copy();
            int why = 0;
            int good = 0;
            while (good < lines.size() && why == 0) {
                why = bookLine(f, lines.get(good));
                good += why == 0 ? 1 : 0;
            }
            s = f;
            told = new int[] {why, good, f.minute, now(1)};
            s = before;
            if (lives == 1 && good > 0) {
                remember(before);
                s = f;
            }
            return why == 0 ? NONE : good;
        } catch (Fault fault) {
            this.fault = fault.kind;
            return -2 - fault.place;
        }
    }

    int told(int what) {
        return told == null || what < 0 || what > 3 ? NONE : told[what];
    }

    /** Reads a SENTENCE of a MASTER, or (m NONE) only reads it. */
    final class Said extends Parser {
        final int m;
        int ones;

        Said(List<Token> list, int m) {
            super(list);
            this.m = m;
        }

        boolean cond(int within) {
            boolean is = conj(within);
            while (at("or")) {
                i++;
                is |= conj(within);
            }
            return is;
        }

        boolean conj(int within) {
            boolean is = one(within);
            while (at("and")) {
                i++;
                is &= one(within);
            }
            return is;
        }

        boolean one(int within) {
            Token t = peek();
            boolean begins = t.kind == '(' || t.kind == 'k' && Set.of("not", "out", "going", "right", "by", "to",
                    "late", "corner", "came", "number").contains(t.text);
            if (!begins) {
                throw new Fault(1, t.place);
            }
            if (++ones > 20 || within + 1 > 8) {
                throw new Fault(4, t.place);
            }
            i++;
            Master k = m == NONE ? new Master() : s.masters.get(m);
            switch (t.text) {
                case "(":
                    boolean is = cond(within + 1);
                    next(')');
                    return is;
                case "not":
                    return !one(within + 1);
                case "out":
                    return k.out;
                case "going":
                    return !k.came.keySet().containsAll(k.left.keySet());
                case "right":
                    return m != NONE && wrong(k.clock) == 0;
                case "by":
                    Token c = next('n');
                    return known(s.clock(c.text), c) == k.clock;
                case "to":
                    Token e = next('n');
                    return k.to.contains(known(s.meet(e.text), e));
                case "late":
                    return compare(k.late);
                case "corner":
                    return compare(k.corner);
                case "came":
                    return compare(k.came.size());
                default:
                    return compare(m);
            }
        }

        boolean compare(int a) {
            Token sign = peek();
            if (sign.kind != '<' && sign.kind != '=' && sign.kind != '>') {
                throw new Fault(1, sign.place);
            }
            i++;
            int b = number(0, 999);
            return sign.kind == '<' && a < b || sign.kind == '=' && a == b || sign.kind == '>' && a > b;
        }
    }

    int sentence() {
        List<Token> list = tokens(takeTape(), 200);
        try {
            Said said = new Said(list, NONE);
            said.cond(0);
            said.next('$');
            s.sentence = list;
            fault = 0;
            return said.ones;
        } catch (Fault f) {
            fault = f.kind;
            return -1 - f.place;
        }
    }

    int said(int k) {
        if (s.sentence == null) {
            return NONE;
        }
        List<Integer> of = new ArrayList<>();
        for (int m = 0; m < s.masters.size(); m++) {
            if (new Said(s.sentence, m).cond(0)) {
                of.add(m);
            }
        }
        if (k == NONE) {
            return of.size();
        }
        return k >= 0 && k < of.size() ? of.get(k) : NONE;
    }

    boolean image(int k) {
        if (k != 0 && k != 1) {
            return false;
        }
        images[k] = s.copy();
        return true;
    }

    boolean restore(int k) {
        if (k != 0 && k != 1 || images[k] == null) {
            return false;
        }
        s = images[k].copy();
        undo.clear();
        return true;
    }

    int count(int what) {
        return switch (what) {
            case 0 -> s.clocks.size();
            case 1 -> s.masters.size();
            case 2 -> s.meets.size();
            case 3 -> s.wait;
            case 4 -> tape.length();
            default -> NONE;
        };
    }
}
