import java.math.BigInteger;

/** What the tests are written with: answers that are due, and tables brought to where a test begins. */
abstract class Checks {
    static final int NONE = OpenDeal.NONE;
    /** The least and the greatest P that there are. */
    static final int P = 65543;
    static final int LARGEST_P = 2147483579;
    static final int[] OUTSIDE_PLACES = {Integer.MIN_VALUE, -1, 52, 64, Integer.MAX_VALUE};

    private static final long FACTOR = 6364136223846793005L;
    private static final long ADDEND = 1442695040888963407L;
    private static final int[] EXPONENTS = {3, 5, 7, 11};

    private static int wrong = 0;
    private static String sentence = "";

    /** What the document says, which all that is due from here on follows from. */
    static void about(String text) {
        sentence = text;
    }

    static void due(String what, long got, long want) {
        if (got != want) {
            wrong++;
            System.out.println("[" + sentence + "] " + what + " answered " + got + ", due is " + want);
        }
    }

    static void yes(String what, boolean got) {
        due(what, got ? 1 : 0, 1);
    }

    static void no(String what, boolean got) {
        due(what, got ? 1 : 0, 0);
    }

    static void end() {
        System.out.println(wrong == 0 ? "all answers are as due" : wrong + " answers are not as due");
        if (wrong != 0) {
            System.exit(1);
        }
    }

    static boolean laidThrows(OpenDeal x, int place) {
        try {
            x.laid(place);
        } catch (IndexOutOfBoundsException e) {
            return true;
        }
        return false;
    }

    static boolean sealOfThrows(OpenDeal x, int player) {
        try {
            x.sealOf(player);
        } catch (IndexOutOfBoundsException e) {
            return true;
        }
        return false;
    }

    static boolean auditThrows(OpenDeal x) {
        try {
            x.audit();
        } catch (IllegalStateException e) {
            return true;
        }
        return false;
    }

    static void chips(OpenDeal x, int... want) {
        for (int k = 0; k < want.length; k++) {
            due("chips of " + k, x.player(k, 0), want[k]);
        }
    }

    // ---- tables

    static OpenDeal seated(int p, int... chips) {
        OpenDeal x = new OpenDeal();
        x.prime(p);
        for (int c : chips) {
            x.seat(c);
        }
        return x;
    }

    /** A table whose hand has begun. */
    static OpenDeal begun(int p, int... chips) {
        OpenDeal x = seated(p, chips);
        x.deal();
        return x;
    }

    /** A table of so many players whose hand has begun. */
    static OpenDeal begunBy(int players) {
        int[] chips = new int[players];
        java.util.Arrays.fill(chips, 10);
        return begun(P, chips);
    }

    /** A table in PHASE 4. */
    static OpenDeal playing(int... chips) {
        OpenDeal x = begun(P, chips);
        toPlay(x);
        return x;
    }

    /** A table in PHASE 4 with a ROUND under way. */
    static OpenDeal betting(int... chips) {
        OpenDeal x = playing(chips);
        x.round();
        return x;
    }

    static long orderKey(int player) {
        return 1000 + player;
    }

    static long locksKey(int player) {
        return -2000 - player;
    }

    static int exponent(int player) {
        return EXPONENTS[player];
    }

    static boolean sealOne(OpenDeal x, int player) {
        return x.seal(player, exponent(player), orderKey(player), locksKey(player));
    }

    static void sealAll(OpenDeal x) {
        for (int k = 0; k < x.state(1); k++) {
            sealOne(x, k);
        }
    }

    static void turnAll(OpenDeal x) {
        for (int k = 0; k < x.state(1); k++) {
            x.turn(k);
        }
    }

    static void toPlay(OpenDeal x) {
        sealAll(x);
        turnAll(x);
        turnAll(x);
    }

    static void giveAll(OpenDeal x, int place) {
        for (int k = 0; k < x.state(1); k++) {
            x.give(k, place);
        }
    }

    static void showAll(OpenDeal x) {
        for (int k = 0; k < x.state(1); k++) {
            x.show(k);
        }
    }

    static void finish(OpenDeal x) {
        x.settle(0);
        showAll(x);
    }

    /** A table of three brought to a PHASE, with as much left lying about as there can be. */
    static OpenDeal inPhase(int phase) {
        OpenDeal x = seated(P, 100, 100, 100);
        if (phase >= 1) {
            x.deal();
            x.cheat(0, 2, 3);
            x.cheat(1, 4, 0);
            x.seal(0, 3, 1, 2);
        }
        if (phase >= 2) {
            x.seal(1, 5, 3, 4);
            x.seal(2, 7, 5, 6);
            x.turn(0);
        }
        if (phase >= 3) {
            x.turn(1);
            x.turn(2);
            x.turn(0);
        }
        if (phase >= 4) {
            x.turn(1);
            x.turn(2);
            x.assign(3, NONE);
            x.give(0, 3);
            x.round();
            x.bet(0, 0, 0);
            x.bet(1, 2, 20);
        }
        if (phase >= 5) {
            x.bet(2, 1, 0);
            x.settle(0);
            x.show(0);
        }
        if (phase >= 6) {
            x.show(1);
            x.show(2);
        }
        return x;
    }

    /** Likewise, but in PHASE 4 no ROUND is under way. */
    static OpenDeal idleInPhase(int phase) {
        OpenDeal x = inPhase(phase);
        if (phase == 4) {
            x.bet(2, 1, 0);
        }
        return x;
    }

    // ---- the document's reckoning, by other means than the class

    static long pow(long base, long exponent, long modulus) {
        return BigInteger.valueOf(base).modPow(BigInteger.valueOf(exponent), BigInteger.valueOf(modulus)).longValue();
    }

    static long inverse(long e, long p) {
        return BigInteger.valueOf(e).modInverse(BigInteger.valueOf(p - 1)).longValue();
    }

    static boolean isExponent(long e, long p) {
        return e >= 3 && e <= p - 2 && BigInteger.valueOf(e).gcd(BigInteger.valueOf(p - 1)).longValue() == 1;
    }

    static boolean isPrime(long n) {
        for (long d = 2; d * d <= n; d++) {
            if (n % d == 0) {
                return false;
            }
        }
        return n > 1;
    }

    static long step(long key) {
        return key * FACTOR + ADDEND;
    }

    /** The KEY that the next DRAW turns into this one. */
    static long keyBefore(long key) {
        long inverse = FACTOR;
        for (int i = 0; i < 6; i++) {
            inverse *= 2 - FACTOR * inverse;
        }
        return (key - ADDEND) * inverse;
    }

    /** A KEY whose first DRAW is this one. */
    static long keyOfDraw(long draw) {
        return keyBefore(draw << 33);
    }

    static int[] order(long key) {
        int[] row = new int[52];
        for (int i = 0; i < 52; i++) {
            row[i] = i;
        }
        for (int k = 51; k >= 1; k--) {
            key = step(key);
            int other = (int) ((key >>> 33) % (k + 1));
            int was = row[k];
            row[k] = row[other];
            row[other] = was;
        }
        return row;
    }

    static long[] locks(long key, long p) {
        long[] row = new long[52];
        for (int place = 0; place < 52; place++) {
            do {
                key = step(key);
                row[place] = 3 + (key >>> 33) % (p - 4);
            } while (!isExponent(row[place], p));
        }
        return row;
    }

    /** The LOCKS for the least P, quickly, for searches through many KEYS. */
    static int[] fastLocks(long key) {
        int[] row = new int[52];
        for (int place = 0; place < 52; place++) {
            do {
                key = step(key);
                row[place] = (int) (3 + (key >>> 33) % (P - 4));
            } while (row[place] % 2 == 0 || row[place] == (P - 1) / 2);
        }
        return row;
    }

    static long fastPow(long base, long exponent, long modulus) {
        long result = 1;
        long square = base % modulus;
        for (long left = exponent; left > 0; left >>= 1) {
            result = (left & 1) == 1 ? result * square % modulus : result;
            square = square * square % modulus;
        }
        return result;
    }

    static long numberOf(int card) {
        return (card + 2L) * (card + 2L);
    }

    /** The card of a number, or 52. */
    static int cardOf(long number) {
        for (int card = 0; card < 52; card++) {
            if (numberOf(card) == number) {
                return card;
            }
        }
        return 52;
    }

    static int indexOf(int[] row, int what) {
        for (int i = 0; i < row.length; i++) {
            if (row[i] == what) {
                return i;
            }
        }
        return NONE;
    }

    /** The card that lies at a place where the first so many players, with their usual ORDERS, locked. */
    static int cardAt(int place, int players) {
        int at = place;
        for (int k = players - 1; k >= 0; k--) {
            at = order(orderKey(k))[at];
        }
        return at;
    }
}
