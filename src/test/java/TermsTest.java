/**
 * The sentences of 'Terms' from P to A HAND that name a boundary case: the answer at the case itself
 * and just beside it. Rows written out here were reckoned by another program than the class.
 */
public final class TermsTest extends Checks {
    private static final int HALF = (P - 1) / 2;

    public static void main(String[] args) {
        about("P is a prime such that (P - 1) / 2 is one, too, above 2^16 and below 2^31.");
        primeAbove();
        primeBelow();
        primeBoth();
        about("CARDS are 0 .. 51; the NUMBER of card i is (i + 2)^2, modulo P.");
        numbers();
        about("PLAYERS are numbered 0 .. 3 as they take a seat.");
        playersNumbers();
        about("An EXPONENT is a number 3 .. P - 2 that has no factor in common with P - 1.");
        exponentsOfLeastPrime();
        exponentsOfGreatestPrime();
        about("the KEY becomes KEY * 6364136223846793005 + 1442695040888963407; a DRAW is the KEY >>> 33 then.");
        firstDraws();
        about("for k = 51, .. 1: number k and number (DRAW % (k + 1)) of the row change places.");
        lastNumberOfOrder();
        wholeOrders();
        about("for places 0, .. 51 in turn: DRAWS, until 3 + DRAW % (P - 4) is an EXPONENT: that.");
        firstLocks(P);
        firstLocks(LARGEST_P);
        lockIsDrawnAnew(P);
        lockIsDrawnAnew(LARGEST_P);
        wholeLocks();
        about("THE SEAL of an EXPONENT e, two KEYS k, l");
        seals();
        about("A HAND.");
        phaseEndsWithTheLast();
        seatsAreTakenInPhaseZero();
        deckAtFirst();
        deckIsLockedByOrder();
        deckIsRelocked();
        placesAreDealtOnce();
        ownLockIsNotGiven();
        openedForItsPlayer();
        openedForAnyone();
        openedByLocksAsGiven();
        end();
    }

    // ---- P

    private static void primeAbove() {
        no("65267, the last such prime below 2^16", new OpenDeal().prime(65267));
        for (int p = 65268; p < 65700; p++) {
            boolean want = p == 65543 || p == 65579 || p == 65687;
            due("prime(" + p + ")", new OpenDeal().prime(p) ? 1 : 0, want ? 1 : 0);
        }
        for (int p : new int[] {5, 7, 11, 23, 47, 59, 83, 107, 0, 1, 2, 3, -1, -7, -65543, Integer.MIN_VALUE}) {
            no("prime(" + p + ")", new OpenDeal().prime(p));
        }
    }

    private static void primeBelow() {
        for (int back = 0; back < 600; back++) {
            int p = Integer.MAX_VALUE - back;
            boolean want = p == 2147483579 || p == 2147483123;
            due("prime(" + p + ")", new OpenDeal().prime(p) ? 1 : 0, want ? 1 : 0);
        }
        no("2147483783, the first such prime above 2^31, as an int", new OpenDeal().prime((int) 2147483783L));
    }

    private static void primeBoth() {
        for (int p : new int[] {65537, 65539, 65551, 2147483587, 2147483629, 2147483647}) {
            no("a prime alone: " + p, new OpenDeal().prime(p));
        }
        for (int p : new int[] {65559, 65567, 65595, 65603, 2147483567, 2147483483}) {
            no("half of it alone: " + p, new OpenDeal().prime(p));
        }
        for (int p : new int[] {65560, 65568, 65580, 2147483580}) {
            no("an even one: " + p, new OpenDeal().prime(p));
        }
    }

    // ---- CARDS, PLAYERS

    private static void numbers() {
        for (int p : new int[] {P, LARGEST_P}) {
            OpenDeal x = seated(p);
            due("of card 0", x.laid(0), 4);
            due("of card 1", x.laid(1), 9);
            due("of card 50", x.laid(50), 2704);
            due("of card 51", x.laid(51), 2809);
            yes("no card -1", laidThrows(x, -1));
            yes("no card 52", laidThrows(x, 52));
        }
    }

    private static void playersNumbers() {
        OpenDeal x = new OpenDeal();
        for (int k = 0; k < 4; k++) {
            due("seat is not taken", x.player(k, 0), NONE);
            due("seat", x.seat(20 + k), k);
            due("seat is taken", x.player(k, 0), 20 + k);
        }
        due("a fifth", x.seat(24), NONE);
        due("no player -1", x.player(-1, 0), NONE);
        due("no player 4", x.player(4, 0), NONE);
    }

    // ---- EXPONENT

    private static void exponentsOfLeastPrime() {
        for (int e = -4; e <= P + 4; e++) {
            boolean want = e >= 3 && e <= P - 2 && e % 2 != 0 && e % HALF != 0;
            due("seal with " + e, begunBy(2).seal(0, e, 1, 1) ? 1 : 0, want ? 1 : 0);
        }
        for (int e : new int[] {Integer.MIN_VALUE, Integer.MIN_VALUE + 1, Integer.MAX_VALUE, 2 * P - 3, 3 * HALF}) {
            no("seal with " + e, begunBy(2).seal(0, e, 1, 1));
        }
    }

    private static void exponentsOfGreatestPrime() {
        int half = (LARGEST_P - 1) / 2;
        int[] taken = {3, 5, half - 2, half + 2, LARGEST_P - 4, LARGEST_P - 2};
        int[] refused = {
            -3, 0, 1, 2, 4, half - 1, half, half + 1, LARGEST_P - 3, LARGEST_P - 1, LARGEST_P, LARGEST_P + 1,
            LARGEST_P + 2, Integer.MAX_VALUE, Integer.MIN_VALUE
        };
        for (int e : taken) {
            yes("seal with " + e, begun(LARGEST_P, 10, 10).seal(0, e, 1, 1));
        }
        for (int e : refused) {
            no("seal with " + e, begun(LARGEST_P, 10, 10).seal(0, e, 1, 1));
        }
    }

    // ---- DRAWS, THE ORDER

    /** The deck of player 0 when it has locked with this KEY of ORDER, read as cards. */
    private static int[] orderLaid(long key) {
        OpenDeal x = begunBy(2);
        x.seal(0, 3, key, 1);
        x.seal(1, 3, 1, 1);
        x.turn(0);
        int[] row = new int[52];
        for (int j = 0; j < 52; j++) {
            row[j] = cardOf(fastPow(x.laid(j), inverse(3, P), P));
        }
        return row;
    }

    /** Number 51 of the row is settled by the first DRAW alone. */
    private static void firstDraws() {
        due("KEY 0, DRAW 0", orderLaid(keyBefore(0L))[51], 0);
        due("KEY 2^33 - 1, DRAW 0", orderLaid(keyBefore((1L << 33) - 1))[51], 0);
        due("KEY 2^33, DRAW 1", orderLaid(keyBefore(1L << 33))[51], 1);
        due("the greatest KEY, DRAW 2^30 - 1", orderLaid(keyBefore(Long.MAX_VALUE))[51], 11);
        due("the least KEY, DRAW 2^30", orderLaid(keyBefore(Long.MIN_VALUE))[51], 12);
        due("KEY -1, DRAW 2^31 - 1", orderLaid(keyBefore(-1L))[51], 23);
    }

    private static void lastNumberOfOrder() {
        due("DRAW 50", orderLaid(keyOfDraw(50))[51], 50);
        due("DRAW 51: it stays where it is", orderLaid(keyOfDraw(51))[51], 51);
        due("DRAW 52", orderLaid(keyOfDraw(52))[51], 0);
        due("DRAW 53", orderLaid(keyOfDraw(53))[51], 1);
        due("DRAW 103", orderLaid(keyOfDraw(103))[51], 51);
        due("DRAW 104", orderLaid(keyOfDraw(104))[51], 0);
    }

    private static void wholeOrders() {
        sameRow("ORDER of 0", orderLaid(0), new int[] {
            26, 19, 6, 0, 48, 44, 3, 35, 9, 46, 43, 8, 27, 4, 31, 2, 15, 47, 30, 28, 51, 24, 17, 11, 41, 33,
            21, 32, 10, 38, 50, 14, 34, 5, 13, 25, 49, 12, 7, 22, 40, 1, 45, 36, 20, 18, 39, 29, 16, 37, 42, 23
        });
        sameRow("ORDER of -1", orderLaid(-1), new int[] {
            24, 31, 7, 1, 15, 9, 43, 38, 19, 21, 48, 13, 45, 44, 39, 10, 25, 6, 14, 26, 2, 33, 36, 51, 4, 46,
            12, 35, 22, 11, 34, 42, 18, 20, 49, 5, 29, 30, 37, 47, 3, 23, 17, 8, 32, 50, 40, 0, 16, 27, 41, 28
        });
        sameRow("ORDER of the greatest", orderLaid(Long.MAX_VALUE), new int[] {
            29, 7, 50, 9, 40, 37, 41, 33, 27, 35, 30, 19, 48, 46, 11, 34, 51, 22, 43, 8, 49, 10, 23, 14, 5, 31,
            4, 25, 36, 45, 26, 47, 17, 39, 21, 42, 18, 0, 12, 24, 2, 1, 44, 20, 13, 15, 6, 32, 38, 3, 28, 16
        });
        sameRow("ORDER of the least", orderLaid(Long.MIN_VALUE), new int[] {
            25, 37, 34, 11, 7, 9, 43, 27, 8, 51, 46, 24, 36, 42, 18, 16, 2, 15, 10, 40, 12, 26, 28, 29, 0, 30,
            49, 41, 31, 3, 17, 48, 14, 1, 19, 33, 23, 20, 32, 6, 47, 21, 22, 50, 39, 44, 5, 45, 38, 13, 4, 35
        });
        for (long key = -20; key <= 20; key++) {
            sameRow("ORDER of " + key, orderLaid(key), order(key));
        }
    }

    private static void sameRow(String what, int[] got, int[] want) {
        for (int i = 0; i < want.length; i++) {
            due(what + ", number " + i, got[i], want[i]);
        }
    }

    // ---- THE LOCKS

    /** Whether player 0 relocks place j with this LOCK when it has this KEY of LOCKS. */
    private static boolean relocksWith(int p, long key, int j, long lock) {
        OpenDeal x = begun(p, 10, 10);
        x.seal(0, 3, 1, key);
        x.seal(1, 5, 2, 2);
        turnAll(x);
        long unlocked = pow(x.laid(j), inverse(3, p), p);
        x.turn(0);
        return x.laid(j) == pow(unlocked, lock, p);
    }

    private static void firstLocks(int p) {
        int half = (p - 1) / 2;
        yes("DRAW 0: 3", relocksWith(p, keyOfDraw(0), 0, 3));
        yes("DRAW 2: 5", relocksWith(p, keyOfDraw(2), 0, 5));
        yes("DRAW P - 7: P - 4", relocksWith(p, keyOfDraw(p - 7), 0, p - 4));
        yes("DRAW P - 5: P - 2", relocksWith(p, keyOfDraw(p - 5), 0, p - 2));
        yes("DRAW P - 4: 3 again", relocksWith(p, keyOfDraw(p - 4), 0, 3));
        yes("DRAW P - 2: 5 again", relocksWith(p, keyOfDraw(p - 2), 0, 5));
        yes("below the half", relocksWith(p, keyOfDraw(half - 5), 0, half - 2));
        yes("above the half", relocksWith(p, keyOfDraw(half - 1), 0, half + 2));
        yes("one of the greatest DRAWS", relocksWith(p, keyOfDraw((1L << 31) - (p == P ? 2 : 1)), 0, p == P ? 32775 : 75));
    }

    private static void lockIsDrawnAnew(int p) {
        int half = (p - 1) / 2;
        int[] draws = {1, half - 4, half - 3, half - 2, p - 6, p - 3};
        for (int draw : draws) {
            long second = step((long) draw << 33);
            long lock = 3 + (second >>> 33) % (p - 4);
            // Low bits of the KEY that make the second DRAW an EXPONENT, so that two DRAWS are enough.
            long low = 0;
            while (!isExponent(lock, p)) {
                low++;
                second = step(((long) draw << 33) + low);
                lock = 3 + (second >>> 33) % (p - 4);
            }
            long key = keyBefore(((long) draw << 33) + low);
            yes(3 + draw + " is no EXPONENT for " + p, relocksWith(p, key, 0, lock));
        }
    }

    private static void wholeLocks() {
        int[] places = {0, 1, 2, 3, 4, 5, 51};
        long[] keys = {0, -1, Long.MAX_VALUE, Long.MIN_VALUE};
        long[][] least = {
            {20479, 29545, 26691, 11099, 7717, 6811, 44035},
            {43555, 41025, 40029, 1607, 44135, 17927, 22583},
            {36797, 4301, 38487, 8891, 36349, 46125, 2077},
            {57279, 5027, 21285, 29469, 46213, 56869, 9385},
        };
        long[][] greatest = {
            {218396427, 861605239, 169888187, 1036791267, 784246485, 104453385, 1598802401},
            {1574552491, 901017605, 2086932867, 270284443, 1491889535, 417962165, 897266735},
            {500810667, 1974759429, 1013191043, 1344026267, 418147711, 1491703989, 1971008559},
            {1292138251, 1935347063, 1243630011, 2110533091, 1857988309, 1178195209, 525060577},
        };
        for (int i = 0; i < keys.length; i++) {
            for (int j = 0; j < places.length; j++) {
                String what = " LOCK " + places[j] + " of KEY " + keys[i];
                yes("least P," + what, relocksWith(P, keys[i], places[j], least[i][j]));
                yes("greatest P," + what, relocksWith(LARGEST_P, keys[i], places[j], greatest[i][j]));
            }
        }
    }

    // ---- THE SEAL

    private static void seals() {
        long most = Long.MAX_VALUE;
        long least = Long.MIN_VALUE;
        sealIs(P, 3, 0, 0, -4816879570818079594L);
        sealIs(P, 3, -1, -1, 5823348345731720633L);
        sealIs(P, 3, most, least, 6180262622984027495L);
        sealIs(P, 3, least, most, 2868604446757566123L);
        sealIs(P, P - 2, 0, 0, 1210992697181929780L);
        sealIs(P, P - 2, -1, -1, -2838065782001158573L);
        sealIs(P, P - 2, most, least, 7304456823148867686L);
        sealIs(P, P - 2, least, most, 8316154246070720865L);
        sealIs(LARGEST_P, LARGEST_P - 2, 0, 0, -6964539375218960532L);
        sealIs(LARGEST_P, LARGEST_P - 2, -1, -1, 2148988436625796580L);
        sealIs(LARGEST_P, LARGEST_P - 2, most, least, -3836782607824360726L);
        sealIs(LARGEST_P, LARGEST_P - 2, least, most, 8223386182894642544L);
    }

    private static void sealIs(int p, int e, long k, long l, long want) {
        OpenDeal x = begun(p, 10, 10);
        x.seal(1, e, k, l);
        due("SEAL of " + e + ", " + k + ", " + l, x.sealOf(1), want);
    }

    // ---- A HAND

    private static void phaseEndsWithTheLast() {
        for (int players = 2; players <= 4; players++) {
            OpenDeal x = begunBy(players);
            for (int k = players - 1; k >= 0; k--) {
                due("PHASE, before " + k + " of " + players + " seals", x.state(0), 1);
                yes("seal", sealOne(x, k));
            }
            for (int phase = 2; phase <= 3; phase++) {
                for (int k = 0; k < players; k++) {
                    due("PHASE, before the turn of " + k + " of " + players, x.state(0), phase);
                    due("it is the turn of", x.state(2), k);
                    yes("turn", x.turn(k));
                }
            }
            due("PHASE, when all of " + players + " have", x.state(0), 4);
            x.settle(0);
            for (int k = players - 1; k >= 0; k--) {
                due("PHASE, before " + k + " of " + players + " shows", x.state(0), 5);
                yes("show", x.show(k));
            }
            due("PHASE, when all are shown", x.state(0), 6);
        }
    }

    private static void seatsAreTakenInPhaseZero() {
        OpenDeal x = seated(P, 10, 10);
        due("in PHASE 0", x.seat(10), 2);
        x.deal();
        due("in PHASE 1", x.seat(10), NONE);
        due("players", x.state(1), 3);
    }

    private static void deckAtFirst() {
        OpenDeal x = begunBy(2);
        for (int hand = 0; hand < 2; hand++) {
            isNew("in PHASE 1", x);
            sealAll(x);
            isNew("in PHASE 2", x);
            x.turn(0);
            due("locked by one", x.laid(51), pow(numberOf(order(orderKey(0))[51]), exponent(0), P));
            x.turn(1);
            turnAll(x);
            finish(x);
            x.deal();
        }
    }

    private static void isNew(String when, OpenDeal x) {
        for (int j = 0; j < 52; j++) {
            due(when + " laid(" + j + ")", x.laid(j), numberOf(j));
        }
    }

    /** What lay at ORDER(j) comes to j: an ORDER is not its own inverse, so the two can be told. */
    private static void deckIsLockedByOrder() {
        OpenDeal x = begunBy(3);
        sealAll(x);
        long[] deck = new long[52];
        for (int j = 0; j < 52; j++) {
            deck[j] = numberOf(j);
        }
        for (int k = 0; k < 3; k++) {
            int[] order = order(orderKey(k));
            x.turn(k);
            long[] after = new long[52];
            for (int j = 0; j < 52; j++) {
                after[j] = pow(deck[order[j]], exponent(k), P);
                due("place " + j + " when " + k + " locked", x.laid(j), after[j]);
            }
            deck = after;
        }
    }

    private static void deckIsRelocked() {
        for (int p : new int[] {P, LARGEST_P}) {
            int half = (p - 1) / 2;
            for (int e : new int[] {3, half - 2, half + 2, p - 4, p - 2}) {
                OpenDeal x = begun(p, 10, 10);
                x.seal(0, e, 1, 2);
                x.seal(1, 5, 3, 4);
                turnAll(x);
                int first = x.laid(0);
                int last = x.laid(51);
                x.turn(0);
                long[] locks = locks(2, p);
                long unlock = inverse(e, p);
                due("place 0, " + e, x.laid(0), pow(pow(first, unlock, p), locks[0], p));
                due("place 51, " + e, x.laid(51), pow(pow(last, unlock, p), locks[51], p));
            }
        }
    }

    private static void placesAreDealtOnce() {
        OpenDeal x = playing(10, 10);
        for (int place = 0; place < 52; place++) {
            yes("place " + place, x.assign(place, place % 3 - 1));
        }
        for (int place = 0; place < 52; place++) {
            for (int player = NONE; player < 2; player++) {
                no("again, place " + place, x.assign(place, player));
            }
        }
        no("no place 52", x.assign(52, 0));
    }

    private static void ownLockIsNotGiven() {
        OpenDeal x = playing(10, 10, 10);
        for (int owner = 0; owner < 3; owner++) {
            x.assign(owner, owner);
            for (int k = 0; k < 3; k++) {
                due("LOCK of " + k + ", dealt to " + owner, x.give(k, owner) ? 1 : 0, k == owner ? 0 : 1);
            }
            due("given", x.player(owner, 4), owner);
        }
        x.assign(51, NONE);
        for (int k = 0; k < 3; k++) {
            yes("LOCK of " + k + ", dealt to the table", x.give(k, 51));
        }
    }

    private static void openedForItsPlayer() {
        for (int owner = 0; owner < 4; owner++) {
            for (int last = 0; last < 4; last++) {
                if (last == owner) {
                    continue;
                }
                OpenDeal x = playing(10, 10, 10, 10);
                x.assign(0, owner);
                for (int k = 0; k < 4; k++) {
                    due("LOCKS are missing", x.open(owner, 0), NONE);
                    if (k != last) {
                        x.give(k, 0);
                    }
                }
                due("that of " + last + " is missing", x.open(owner, 0), NONE);
                x.give(last, 0);
                for (int k = 0; k < 4; k++) {
                    due("of " + owner + " for " + k, x.open(k, 0), k == owner ? cardAt(0, 4) : NONE);
                }
            }
        }
    }

    private static void openedForAnyone() {
        for (int last = 0; last < 4; last++) {
            OpenDeal x = playing(10, 10, 10, 10);
            x.assign(51, NONE);
            for (int k = 0; k < 4; k++) {
                if (k != last) {
                    x.give(k, 51);
                }
            }
            for (int k = 0; k < 4; k++) {
                due("that of " + last + " is missing, for " + k, x.open(k, 51), NONE);
            }
            x.give(last, 51);
            for (int k = 0; k < 4; k++) {
                due("of the table for " + k, x.open(k, 51), cardAt(51, 4));
            }
            due("nobody is not anyone", x.open(NONE, 51), NONE);
            due("nor is a fifth", x.open(4, 51), NONE);
        }
    }

    private static void openedByLocksAsGiven() {
        OpenDeal x = playing(10, 10);
        for (int k = 0; k < 2; k++) {
            x.cheat(k, 2, 7);
            x.cheat(k, 2, 8);
        }
        x.cheat(0, 2, 9);
        x.assign(7, 0);
        x.assign(8, NONE);
        x.assign(9, 0);
        giveAll(x, 7);
        giveAll(x, 8);
        giveAll(x, 9);
        due("another's LOCK is as it was given", x.open(0, 7), openedWrong(7, false));
        due("of the table, its own one, too", x.open(0, 8), openedWrong(8, true));
        due("its own, not given, is as it is", x.open(0, 9), cardAt(9, 2));
    }

    private static int openedWrong(int place, boolean ownToo) {
        long[] first = locks(locksKey(0), P);
        long[] second = locks(locksKey(1), P);
        long lying = pow(numberOf(cardAt(place, 2)), first[place] * second[place] % (P - 1), P);
        long own = ownToo ? above(first[place]) : first[place];
        return cardOf(pow(pow(lying, inverse(own, P), P), inverse(above(second[place]), P), P));
    }

    private static long above(long lock) {
        long e = lock + 1;
        while (!isExponent(e, P)) {
            e++;
        }
        return e;
    }
}
