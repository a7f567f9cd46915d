/** Puts texts on the tape of a LateMasters, for the tests. */
final class Feeder {
    private Feeder() {
    }

    /** Behind what the tape has: only for a tape of whole feeds; answers false if it did not fit. */
    static boolean text(LateMasters x, String text) {
        int before = x.count(4);
        for (int i = 0; i < text.length(); i += 20) {
            int[] n = new int[5];
            for (int k = 0; k < 20; k++) {
                int sign = i + k < text.length() ? text.charAt(i + k) : 0;
                n[k / 4] = n[k / 4] << 8 | sign;
            }
            if (x.feed(n[0], n[1], n[2], n[3], n[4]) == LateMasters.NONE) {
                return false;
            }
        }
        return x.end(before + text.length());
    }

    static int burgh(LateMasters x, String text) {
        text(x, text);
        return x.burgh();
    }

    static int book(LateMasters x, String text, int lives) {
        text(x, text);
        return x.book(lives);
    }

    static int sentence(LateMasters x, String text) {
        text(x, text);
        return x.sentence();
    }

    /** Numbers below 256 each. */
    static int time(LateMasters x, int... bytes) {
        StringBuilder text = new StringBuilder();
        for (int b : bytes) {
            text.append((char) b);
        }
        text(x, text.toString());
        return x.time();
    }

    static String face(LateMasters x, int c) {
        int n = x.face(c);
        StringBuilder text = new StringBuilder();
        for (int i = 0; i < n; i++) {
            text.append((char) x.byteAt(i));
        }
        return text.toString();
    }
}
