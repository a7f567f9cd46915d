import java.util.NoSuchElementException;
import java.util.Random;

/** Random runs of calls, each answer held against PlainModel's; an argument tells how many runs, another the seed. */
public final class PlainModelTest {
    private static final String[] CLOCKS = {"a", "bell", "cathed", "dial", "east", "fivesix", "gate"};
    private static final String[] MASTERS = {"m", "nan", "otto", "pim", "quentin", "rob", "sue"};
    private static final String[] MEETS = {"tea", "ball", "u", "vote", "wed", "xmas", "yule"};
    private static final String[] ODD = {"clock", "fast", "by", "wait", "out", "zz", "1000", "0", "007", "99",
        ";", "(", ")", "<", "=", ">", ".", "A", "a1", "1a", "abcdefgh", "\n", " ", "\u0000", "\u00e9", "-", "tea",
        "m", "a", "or", "and", "not", "sets", "minute", "number"};

    private final Random random;
    private final LateMasters x = new LateMasters();
    private final PlainModel y = new PlainModel();
    private final StringBuilder log = new StringBuilder();
    private boolean failed;
    /** While it is set, texts are told without FAULTS. */
    private boolean clean;

    private PlainModelTest(long seed) {
        random = new Random(seed);
    }

    public static void main(String[] args) {
        int runs = args.length > 0 ? Integer.parseInt(args[0]) : 2500;
        long seed = args.length > 1 ? Long.parseLong(args[1]) : 1;
        for (int i = 0; i < runs; i++) {
            PlainModelTest test = new PlainModelTest(seed * 1000003 + i);
            test.run();
            if (test.failed) {
                System.out.println("run " + i + " of seed " + seed + ":\n" + test.log);
                System.exit(1);
            }
        }
    }

    private int upTo(int n) {
        return random.nextInt(n + 1);
    }

    private boolean rarely() {
        return !clean && random.nextInt(25) == 0;
    }

    private String pick(String[] names, int size) {
        return rarely() ? ODD[random.nextInt(ODD.length)] : names[random.nextInt(Math.max(1, size))];
    }

    private void due(String call, long got, long want) {
        log.append(call).append(" -> ").append(got).append('\n');
        if (got != want) {
            failed = true;
            log.append("due is ").append(want).append('\n');
        }
    }

    private void run() {
        if (random.nextInt(20) > 0) {
            burgh();
        }
        for (int i = random.nextInt(8); i > 5; i--) {
            int n = 800 + upTo(199);
            due("minutes " + n, x.minutes(n), y.minutes(n));
        }
        int calls = 20 + upTo(100);
        for (int i = 0; i < calls && !failed; i++) {
            call();
            if (!failed) {
                due("now0", x.now(0), y.now(0));
                due("fault", x.fault(), y.fault);
            }
        }
    }

    private void burgh() {
        clean = random.nextInt(3) > 0;
        text(burghText());
        clean = false;
        due("burgh", x.burgh(), y.burgh());
    }

    private void text(String text) {
        log.append("text <").append(text).append(">\n");
        if (random.nextInt(40) > 0) {
            x.end(0);
            y.end(0);
        }
        int room = 47 - (x.count(4) + 19) / 20;
        String fed = text.length() > room * 20 ? text.substring(0, room * 20) : text;
        int before = x.count(4);
        for (int i = 0; i < fed.length(); i += 20) {
            int[] n = new int[5];
            for (int k = 0; k < 20; k++) {
                n[k / 4] = n[k / 4] << 8 | (i + k < fed.length() ? fed.charAt(i + k) & 255 : 0);
            }
            due("feed", x.feed(n[0], n[1], n[2], n[3], n[4]), y.feed(n[0], n[1], n[2], n[3], n[4]));
        }
        int end = before + fed.length();
        due("end", x.end(end) ? 1 : 0, y.end(end) ? 1 : 0);
    }

    private String spoil(String text, int most) {
        if (clean) {
            return text;
        }
        StringBuilder spoilt = new StringBuilder(text);
        if (random.nextInt(3) == 0) {
            int times = 1 + upTo(2);
            for (int i = 0; i < times; i++) {
                int at = upTo(spoilt.length());
                switch (random.nextInt(4)) {
                    case 0:
                        spoilt.insert(at, ODD[random.nextInt(ODD.length)]);
                        break;
                    case 1:
                        spoilt.insert(at, ' ');
                        break;
                    case 2:
                        spoilt.setLength(at);
                        break;
                    default:
                        if (at < spoilt.length()) {
                            spoilt.deleteCharAt(at);
                        }
                        break;
                }
            }
        }
        if (random.nextInt(6) == 0) {
            // about as long as it may be
            int length = most - 5 + upTo(12);
            while (spoilt.length() < length) {
                int at = upTo(spoilt.length());
                if (at == 0 || at == spoilt.length() || !Character.isLetterOrDigit(spoilt.charAt(at))
                        || !Character.isLetterOrDigit(spoilt.charAt(at - 1))) {
                    spoilt.insert(at, random.nextBoolean() ? ' ' : '\n');
                }
            }
        }
        return spoilt.toString();
    }

    private String burghText() {
        StringBuilder t = new StringBuilder();
        int clocks = rarely() ? 7 : Math.max(upTo(6), upTo(6));
        int masters = clocks == 0 ? 0 : rarely() ? 7 : Math.max(upTo(6), upTo(6));
        int meets = rarely() ? 7 : Math.max(upTo(6), upTo(6));
        for (int c = 0; c < clocks; c++) {
            t.append("clock ").append(rarely() ? pick(CLOCKS, 6) : CLOCKS[c]).append(' ');
            t.append(rarely() ? 31 : upTo(30));
            if (random.nextBoolean()) {
                t.append(random.nextBoolean() ? " fast " : "\nslow ");
                t.append(rarely() ? upTo(1) * 100 : 1 + upTo(98));
            }
            if (random.nextBoolean()) {
                t.append(random.nextBoolean() ? " gains " : " loses ").append(rarely() ? upTo(1) * 10 : 1 + upTo(8));
            }
            t.append(';');
        }
        for (int m = 0; m < masters; m++) {
            t.append("master ").append(rarely() ? pick(MASTERS, 6) : MASTERS[m]).append(' ');
            t.append(rarely() ? 31 : random.nextBoolean() ? upTo(2) : upTo(30)).append(' ');
            t.append(rarely() ? upTo(1) * 61 : 1 + upTo(59)).append(' ').append(pick(CLOCKS, clocks)).append(" ; ");
        }
        for (int e = 0; e < meets; e++) {
            t.append("meet ").append(rarely() ? pick(MEETS, 6) : MEETS[e]).append(' ');
            t.append(random.nextBoolean() ? upTo(200) : upTo(999)).append(';');
        }
        if (random.nextBoolean()) {
            t.append("wait ").append(rarely() ? 100 : upTo(99)).append(';');
        }
        int pairs = masters == 0 || meets == 0 ? 0 : upTo(masters * meets * 2);
        boolean[] told = new boolean[49];
        for (int i = 0; i < pairs; i++) {
            int m = random.nextInt(masters);
            int e = random.nextInt(meets);
            if (t.length() < 870 && (!told[m * 7 + e] || !clean && random.nextInt(60) == 0)) {
                told[m * 7 + e] = true;
                t.append("comes ").append(MASTERS[m]).append(' ').append(MEETS[e]).append(';');
            }
        }
        return spoil(t.toString(), 900);
    }

    private String bookText() {
        StringBuilder t = new StringBuilder();
        int lines = random.nextInt(5) == 0 ? 36 + upTo(8) : upTo(8);
        boolean small = lines > 10;
        for (int i = 0; i < lines; i++) {
            switch (small ? random.nextInt(2) * 4 : random.nextInt(6)) {
                case 0:
                    t.append(small ? "minute 1" : "minute ".concat(String.valueOf(rarely() ? 0 : 1 + upTo(300))));
                    break;
                case 1:
                    t.append("stop ").append(pick(CLOCKS, x.count(0)));
                    break;
                case 2:
                    t.append("start ").append(pick(CLOCKS, x.count(0)));
                    break;
                case 3:
                    t.append("move ").append(pick(MEETS, x.count(2))).append(' ').append(upTo(999));
                    break;
                default:
                    t.append(pick(MASTERS, x.count(1))).append(" sets ").append(pick(CLOCKS, x.count(0)));
                    break;
            }
            t.append(';');
        }
        return spoil(t.toString(), 400);
    }

    private String oneText(int depth) {
        switch (random.nextInt(depth > 9 ? 8 : 12)) {
            case 0:
                return "out";
            case 1:
                return "going";
            case 2:
                return "right";
            case 3:
                return "by " + pick(CLOCKS, x.count(0));
            case 4:
                return "to " + pick(MEETS, x.count(2));
            case 5:
                return "late " + "<=>".charAt(random.nextInt(3)) + upTo(70);
            case 6:
                return "came" + "<=>".charAt(random.nextInt(3)) + " " + upTo(3);
            case 7:
                return (random.nextBoolean() ? "corner " : "number ") + "<=>".charAt(random.nextInt(3)) + upTo(6);
            case 8:
            case 9:
                return "not " + oneText(depth + 1);
            default:
                return "(" + conditionText(depth + 1) + ")";
        }
    }

    private String conditionText(int depth) {
        StringBuilder t = new StringBuilder(oneText(depth));
        int more = depth > 0 ? upTo(2) / 2 : upTo(3);
        if (depth == 0 && random.nextInt(20) == 0) {
            more = 17 + upTo(5);
        }
        for (int i = 0; i < more; i++) {
            String one = more > 10 ? "out" : oneText(depth);
            t.append(random.nextBoolean() ? " and " : " or ").append(one);
        }
        return t.toString();
    }

    private String deepText() {
        StringBuilder t = new StringBuilder();
        int depth = 6 + upTo(4);
        int brackets = 0;
        for (int i = 0; i < depth; i++) {
            boolean not = random.nextBoolean();
            brackets += not ? 0 : 1;
            t.append(not ? "not " : "(");
        }
        t.append("out");
        for (int i = 0; i < brackets; i++) {
            t.append(')');
        }
        return t.toString();
    }

    private int num(int n) {
        return rarely() ? random.nextInt(13) - 3 : upTo(Math.max(0, n - 1));
    }

    private void call() {
        int which = random.nextInt(46);
        int c = num(x.count(0));
        int m = num(x.count(1));
        int e = num(x.count(2));
        int seed = random.nextInt();
        switch (which) {
            case 0:
            case 1:
                if (random.nextInt(6) == 0) {
                    burgh();
                }
                break;
            case 2:
            case 3:
                clean = random.nextBoolean() && x.count(0) > 0 && x.count(1) > 0 && x.count(2) > 0;
                text(bookText());
                clean = false;
                int lives = rarely() ? 2 : upTo(1);
                due("book " + lives, x.book(lives), y.book(lives));
                break;
            case 4:
            case 5:
                clean = random.nextBoolean() && x.count(0) > 0 && x.count(2) > 0;
                text(spoil(random.nextInt(4) == 0 ? deepText() : conditionText(0), 200));
                clean = false;
                due("sentence", x.sentence(), y.sentence());
                break;
            case 6:
            case 7:
                int what = random.nextInt(7) - 1;
                due("clock " + c + " " + what, x.clock(c, what), y.clock(c, what));
                break;
            case 8:
                due("wrong " + c, wrong(c), plainWrong(c));
                break;
            case 9:
            case 10:
                int of = random.nextInt(9) - 1;
                due("master " + m + " " + of, master(m, of), plainMaster(m, of));
                break;
            case 11:
            case 12:
                int about = random.nextInt(6) - 1;
                due("meet " + e + " " + about, x.meet(e, about), y.meet(e, about));
                break;
            case 13:
            case 14:
                int now = random.nextInt(8) - 1;
                due("now " + now, x.now(now), y.now(now));
                break;
            case 15:
            case 16:
                due("set " + m + " " + c, x.set(m, c), y.set(m, c));
                break;
            case 17:
                due("stop " + c, x.stop(c), y.stop(c));
                break;
            case 18:
                due("start " + c, x.start(c), y.start(c));
                break;
            case 19:
            case 20:
                int at = rarely() ? random.nextInt(2010) - 5 : x.now(0) + random.nextInt(140) - 5;
                due("move " + e + " " + at, x.move(e, at), y.move(e, at));
                break;
            case 21:
            case 22:
            case 23:
                int n = rarely() ? random.nextInt(1005) - 2 : 1 + upTo(70);
                due("minutes " + n, x.minutes(n), y.minutes(n));
                break;
            case 24:
                due("undo", x.undo(), y.undo());
                break;
            default:
                question(which, c, m, e, seed);
                break;
        }
    }

    private void question(int which, int c, int m, int e, int seed) {
        switch (which) {
            case 25:
                due("comes " + m + " " + e, x.comes(m, e), y.comes(m, e));
                break;
            case 26:
                due("all " + e, x.all(e), y.all(e));
                break;
            case 27:
                due("missed " + e, x.missed(e), y.missed(e));
                break;
            case 28:
                due("caught " + e, x.caught(e), y.caught(e));
                break;
            case 29:
                int n = random.nextInt(10) == 0 ? 238 + upTo(4) : random.nextInt(201) - 1;
                due("plan " + e + " " + n, x.plan(e, n), y.plan(e, n));
                break;
            case 30:
            case 31:
                text(timeText());
                due("time", x.time(), y.time());
                due("timeFirst", x.timeFirst(), y.first);
                due("look", x.look(), y.look);
                break;
            case 32:
                due("alike", x.alike(), y.alike());
                break;
            case 33:
                int than = rarely() ? 99 + upTo(1) : random.nextInt(30) - 1;
                due("tend " + m + " " + than, x.tend(m, than), y.tend(m, than));
                break;
            case 34:
                due("worst", x.worst(), y.worst());
                break;
            case 35:
                due("latest", x.latest(), y.latest());
                due("latestBy", x.latestBy(), y.by);
                break;
            case 36:
                int part = rarely() ? 2 : upTo(1);
                due("mean " + part, mean(part), plainMean(part));
                break;
            case 37:
                due("face " + c, x.face(c), y.face(c));
                for (int i = -1; i <= 28; i++) {
                    due("byteAt " + i, x.byteAt(i), y.byteAt(i));
                }
                break;
            case 38:
                int hours = rarely() ? random.nextInt(27) - 1 : 1 + upTo(3);
                due("drawn " + hours + " " + seed, x.drawn(hours, seed), y.drawn(hours, seed));
                break;
            case 39:
                int seeds = rarely() ? random.nextInt(23) - 1 : 1 + upTo(3);
                due("odds " + m + " " + seeds + " " + seed, x.odds(m, seeds, seed), y.odds(m, seeds, seed));
                break;
            case 40:
                int told = random.nextInt(6) - 1;
                due("told " + told, x.told(told), y.told(told));
                break;
            case 41:
            case 42:
                int k = random.nextInt(8) - 2;
                due("said " + k, x.said(k), y.said(k));
                break;
            case 43:
                int place = rarely() ? random.nextInt(5) - 2 : upTo(1);
                due("image " + place, x.image(place) ? 1 : 0, y.image(place) ? 1 : 0);
                break;
            case 44:
                int from = rarely() ? random.nextInt(5) - 2 : upTo(1);
                due("restore " + from, x.restore(from) ? 1 : 0, y.restore(from) ? 1 : 0);
                break;
            default:
                int counted = random.nextInt(7) - 1;
                due("count " + counted, x.count(counted), y.count(counted));
                break;
        }
    }

    private String timeText() {
        StringBuilder t = new StringBuilder();
        int triples = rarely() ? upTo(6) : 1 + upTo(1);
        int at = x.now(0) + upTo(1500);
        for (int i = 0; i < triples; i++) {
            int c = num(x.count(0));
            boolean there = c >= 0 && c < y.s.clocks.size();
            int shown = there && random.nextInt(4) > 0 ? y.s.clocks.get(c).shows(at) : random.nextInt(722);
            t.append((char) (c & 255)).append((char) (shown / 60)).append((char) (rarely() ? 60 : shown % 60));
        }
        if (rarely()) {
            t.append((char) 0);
        }
        return t.toString();
    }

    private static final long THROWN = Long.MIN_VALUE;

    private long wrong(int c) {
        try {
            return x.wrong(c);
        } catch (NoSuchElementException thrown) {
            return THROWN;
        }
    }

    private long plainWrong(int c) {
        try {
            return y.wrong(c);
        } catch (NoSuchElementException thrown) {
            return THROWN;
        }
    }

    private long master(int m, int what) {
        try {
            return x.master(m, what);
        } catch (NoSuchElementException thrown) {
            return THROWN;
        }
    }

    private long plainMaster(int m, int what) {
        try {
            return y.master(m, what);
        } catch (NoSuchElementException thrown) {
            return THROWN;
        }
    }

    private long mean(int what) {
        try {
            return x.mean(what);
        } catch (NoSuchElementException thrown) {
            return THROWN;
        }
    }

    private long plainMean(int what) {
        try {
            return y.mean(what);
        } catch (NoSuchElementException thrown) {
            return THROWN;
        }
    }
}
