import java.util.NoSuchElementException;
import java.util.Random;

/**
 * Runs of 512 calls with any arguments in any state: no call throws but wrong(), master() and mean(), these throw
 * NoSuchElementException alone, no answer leaves the bounds that the document tells, and the same calls on a second
 * object give the same answers.
 */
public final class AnyCallsTest {
    private static final int THROWN = Integer.MIN_VALUE;
    private static final int[] EDGES = {Integer.MIN_VALUE, Integer.MIN_VALUE + 1, -1000, -256, -2, -1, 0, 1, 2, 3, 4, 5, 6, 7, 8,
        19, 20, 21, 24, 25, 30, 31, 59, 60, 61, 99, 100, 239, 240, 241, 255, 256, 719, 720, 900, 940, 941, 998, 999, 1000,
        1439, 1440, 1998, 1999, 2000, 2001, 65535, 65536, Integer.MAX_VALUE - 1, Integer.MAX_VALUE};
    private static final String[] PIECES = {"clock a 3 fast 99 gains 9;", "clock b 0 slow 99 loses 9;", "clock c 30;",
        "clock d 1 gains 1;", "clock e 2 loses 1;", "clock f 5 fast 1;", "master g 0 1 a;", "master h 30 60 b;",
        "master i 3 5 c;", "master j 1 1 a;", "master k 0 9 b;", "master l 7 7 a;", "meet u 0;", "meet v 999;", "meet w 60;",
        "meet x 61;", "meet y 100;", "meet z 120;", "comes g u;", "comes h u;", "comes g w;", "comes i v;", "comes h w;",
        "wait 0;", "wait 99;", "g sets a;", "h sets b;", "stop a;", "start a;", "stop b;", "move w 999;", "move u 0;",
        "minute 1;", "minute 60;", "minute 999;", "out", "going", "right", "by a", "to u", "late < 5", "number = 0",
        "corner > 3", "came > 0", " or ", " and ", "not ", "(", ")", ";", " ", "\n", "!", "\u00ff", "9999", "abcdefgh"};
    private static final String TOWN = String.join("", "clock a 3 fast 99 gains 9;", "clock b 0 slow 99 loses 9;", "clock c 30;",
            "master g 0 1 a;", "master h 30 60 b;", "master i 3 5 c;", "meet u 0;", "meet v 999;", "meet w 60;",
            "comes g u;", "comes h u;", "comes g w;", "comes i v;", "comes h w;", "comes i w;");

    private final Random random;
    private final LateMasters x = new LateMasters();
    private final LateMasters twin = new LateMasters();
    private final StringBuilder log = new StringBuilder();
    private boolean failed;
    private int calls;

    private AnyCallsTest(long seed) {
        random = new Random(seed);
    }

    public static void main(String[] args) {
        int runs = args.length > 0 ? Integer.parseInt(args[0]) : 400;
        long seed = args.length > 1 ? Long.parseLong(args[1]) : 7;
        for (int i = 0; i < runs; i++) {
            AnyCallsTest test = new AnyCallsTest(seed * 1000003 + i);
            test.run();
            if (test.failed) {
                System.out.println("run " + i + " of seed " + seed + ":\n" + test.log);
                System.exit(1);
            }
        }
        System.out.println("AnyCallsTest: " + runs + " runs of 512 calls");
    }

    private void run() {
        if (random.nextInt(4) > 0) {
            tell(TOWN);
            both(2, new int[5]);
        }
        while (calls < 512 && !failed) {
            if (random.nextInt(12) == 0) {
                tell(anyText());
            } else {
                int[] n = new int[5];
                for (int i = 0; i < 5; i++) {
                    n[i] = number();
                }
                both(random.nextInt(40), n);
            }
        }
    }

    private int number() {
        switch (random.nextInt(4)) {
            case 0:
                return EDGES[random.nextInt(EDGES.length)];
            case 1:
                return random.nextInt();
            default:
                return random.nextInt(8) - 1;
        }
    }

    private String anyText() {
        if (random.nextInt(4) == 0) {
            return TOWN;
        }
        StringBuilder text = new StringBuilder();
        int pieces = random.nextInt(random.nextBoolean() ? 6 : 60);
        int only = random.nextInt(PIECES.length);
        boolean same = random.nextInt(6) == 0;
        for (int i = 0; i < pieces && text.length() < 920; i++) {
            text.append(PIECES[same ? only : random.nextInt(PIECES.length)]);
        }
        return text.substring(0, Math.min(text.length(), 940));
    }

    private void tell(String text) {
        both(1, new int[5]);
        for (int i = 0; i < text.length(); i += 20) {
            int[] n = new int[5];
            for (int k = 0; k < 20; k++) {
                n[k / 4] = n[k / 4] << 8 | (i + k < text.length() ? text.charAt(i + k) & 255 : 32);
            }
            both(0, n);
        }
    }

    private void both(int which, int[] n) {
        if (calls >= 512 || failed) {
            return;
        }
        calls++;
        log.append(which).append(": ").append(java.util.Arrays.toString(n));
        int got = guarded(x, which, n);
        int again = guarded(twin, which, n);
        log.append(" -> ").append(got).append('\n');
        if (got != again) {
            fail("the second object answered " + again);
        }
        if (got != THROWN && (got < least(which) || got > greatest(which))) {
            fail("out of bounds");
        }
    }

    private void fail(String why) {
        failed = true;
        log.append(why).append('\n');
    }

    private int guarded(LateMasters o, int which, int[] n) {
        try {
            return which < 20 ? act(o, which, n) : ask(o, which, n);
        } catch (NoSuchElementException thrown) {
            if (which != 20 && which != 21 && which != 22 || thrown.getClass() != NoSuchElementException.class) {
                fail("threw " + thrown);
            }
            return THROWN;
        } catch (RuntimeException | StackOverflowError thrown) {
            fail("threw " + thrown);
            return THROWN;
        }
    }

    private static int act(LateMasters o, int which, int[] n) {
        switch (which) {
            case 0: return o.feed(n[0], n[1], n[2], n[3], n[4]);
            case 1: return o.end(n[0]) ? 1 : 0;
            case 2: return o.burgh();
            case 3: return o.fault();
            case 4: return o.set(n[0], n[1]);
            case 5: return o.stop(n[0]);
            case 6: return o.start(n[0]);
            case 7: return o.move(n[0], n[1]);
            case 8: return o.minutes(n[0]);
            case 9: return o.undo();
            case 10: return o.time();
            case 11: return o.latest();
            case 12: return o.face(n[0]);
            case 13: return o.drawn(n[0], n[1]);
            case 14: return o.book(n[0]);
            case 15: return o.sentence();
            case 16: return o.image(n[0]) ? 1 : 0;
            case 17: return o.restore(n[0]) ? 1 : 0;
            case 18: return o.told(n[0]);
            default: return o.said(n[0]);
        }
    }

    private static int ask(LateMasters o, int which, int[] n) {
        switch (which) {
            case 20: return o.wrong(n[0]);
            case 21: return o.master(n[0], n[1]);
            case 22: return o.mean(n[0]);
            case 23: return o.clock(n[0], n[1]);
            case 24: return o.meet(n[0], n[1]);
            case 25: return o.now(n[0]);
            case 26: return o.comes(n[0], n[1]);
            case 27: return o.all(n[0]);
            case 28: return o.missed(n[0]);
            case 29: return o.caught(n[0]);
            case 30: return o.plan(n[0], n[1]);
            case 31: return o.timeFirst();
            case 32: return o.look();
            case 33: return o.alike();
            case 34: return o.tend(n[0], n[1]);
            case 35: return o.worst();
            case 36: return o.latestBy();
            case 37: return o.byteAt(n[0]);
            case 38: return o.odds(n[0], n[1], n[2]);
            default: return o.count(n[0]);
        }
    }

    private static int least(int which) {
        switch (which) {
            case 2: return -901;
            case 14: return -1000;
            case 15: return -201;
            case 20: return -2000;
            case 23: return -9;
            case 1: case 3: case 16: case 17: case 21: case 22: return 0;
            default: return -1;
        }
    }

    private static int greatest(int which) {
        switch (which) {
            case 0: case 39: return 940;
            case 1: case 16: case 17: return 1;
            case 2: return 55;
            case 3: return 4;
            case 4: case 7: return 2;
            case 5: case 6: return 1;
            case 8: return 999;
            case 9: return 7;
            case 10: case 13: return 1440;
            case 11: case 32: case 35: return 5;
            case 12: return 27;
            case 14: return 39;
            case 15: case 38: return 20;
            case 18: case 25: return 100000;
            case 19: return 6;
            case 20: return 396;
            case 21: return 63;
            case 23: return 719;
            case 24: case 26: case 27: case 30: return 1999;
            case 28: case 29: return 63;
            case 31: return 3439;
            case 33: return 1439;
            case 34: return 60;
            case 36: return 2000;
            case 22: return 72000;
            default: return 255;
        }
    }
}
