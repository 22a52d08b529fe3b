/** The document's promises one by one: ordinary inputs, the edges it names, and wrong inputs. */
public final class PromisesTest extends Checks {
    private static final int[] OUTSIDE_PLAYERS = {Integer.MIN_VALUE, -2, 2, 3, 4, Integer.MAX_VALUE};

    public static void main(String[] args) {
        about("promise 1");
        newObject();
        about("promise 2");
        prime();
        about("promise 3");
        clear();
        about("promise 4");
        seat();
        about("promise 5");
        deal();
        about("promise 6");
        seal();
        sealedExponents();
        about("promise 7");
        sealOf();
        about("promise 8");
        turn();
        turnWithFour();
        about("promise 9");
        laid();
        about("promise 10");
        assign();
        about("promise 11");
        give();
        about("promise 12");
        open();
        openAll();
        about("promise 13");
        round();
        roundEndsAtOnce();
        about("promise 14");
        bet();
        betAround();
        betAllIn();
        betLastOneIn();
        about("promise 15");
        settleLayers();
        settleSharesAndRest();
        settleNoneIn();
        settleRefused();
        about("promise 16");
        show();
        about("promise 17");
        audit();
        auditOrder();
        about("promise 18");
        cheat();
        cheatLaying();
        cheatGiving();
        cheatShowing();
        about("promise 19");
        state();
        about("promise 20");
        player();
        end();
    }

    // ---- promise 1

    private static void newObject() {
        OpenDeal x = new OpenDeal();
        due("phase", x.state(0), 0);
        due("players", x.state(1), 0);
        due("next", x.state(2), NONE);
        due("put in", x.state(3), 0);
        due("most", x.state(4), 0);
        due("player 0", x.player(0, 0), NONE);
        yes("laid without P throws", laidThrows(x, 0));
        yes("sealOf throws", sealOfThrows(x, 0));
        yes("audit throws", auditThrows(x));
        no("deal", x.deal());
        no("turn", x.turn(0));
        no("round", x.round());
        no("bet", x.bet(NONE, 1, 0));
        no("settle", x.settle(0));
        due("open", x.open(0, 0), NONE);
        yes("a P may be set", x.prime(P));
    }

    // ---- promise 2

    private static void prime() {
        int[] refused = {
            Integer.MIN_VALUE, -65543, -7, -1, 0, 1, 2, 3, 4, 5, 7, 11, 23, 65267, 65535, 65536, 65537, 65539, 65541,
            65544, 65545, 20000157, 1373653, 25326001, 2147483629, 2147483646, 2147483647,
            // Primes whose half is none, but passes for one by some test or other.
            70667, 166667, 715523, 865643, 1175723, 2796203, 3367367, 14924003, 32140859, 303060803,
            1319692043, 1879894019
        };
        for (int p : refused) {
            OpenDeal x = new OpenDeal();
            no("prime(" + p + ")", x.prime(p));
            yes("no P after prime(" + p + ")", laidThrows(x, 0));
        }
        for (int p : new int[] {65543, 65579, 20000159, 2147483579}) {
            OpenDeal x = new OpenDeal();
            yes("prime(" + p + ")", x.prime(p));
            no("prime(" + p + ") again", x.prime(p));
        }
        for (int p = 65000; p < 70000; p++) {
            boolean want = p > 65536 && isPrime(p) && isPrime((p - 1) / 2);
            due("prime(" + p + ")", new OpenDeal().prime(p) ? 1 : 0, want ? 1 : 0);
        }
        primeStays();
        primeHalves();
    }

    private static void primeStays() {
        OpenDeal x = begun(P, 10, 10);
        no("a second P", x.prime(65579));
        no("65573 is an EXPONENT for the second alone", x.seal(0, 65573, 1, 1));
        x.clear();
        yes("behind clear", x.prime(65579));
    }

    private static void primeHalves() {
        int onlyHalf = 0;
        int onlyWhole = 0;
        for (int p = 1000001; p < 1002001; p += 2) {
            boolean whole = isPrime(p);
            boolean half = isPrime((p - 1) / 2);
            onlyHalf += half && !whole ? 1 : 0;
            onlyWhole += whole && !half ? 1 : 0;
            due("prime(" + p + ")", new OpenDeal().prime(p) ? 1 : 0, whole && half ? 1 : 0);
        }
        yes("one of both alone was tried", onlyHalf > 0 && onlyWhole > 0);
    }

    // ---- promise 3

    private static void clear() {
        for (int phase = 0; phase <= 6; phase++) {
            OpenDeal x = inPhase(phase);
            due("phase before clear", x.state(0), phase);
            x.clear();
            for (int what = 0; what <= 4; what++) {
                due("state(" + what + ") behind clear in phase " + phase, x.state(what), what == 2 ? NONE : 0);
            }
            due("no player", x.player(0, 0), NONE);
            yes("no P", laidThrows(x, 0));
            yes("no seal", sealOfThrows(x, 0));
            yes("no audit", auditThrows(x));
            no("no deal", x.deal());
            afterClear(x);
        }
    }

    private static void afterClear(OpenDeal x) {
        yes("another P", x.prime(65579));
        due("the deck is new", x.laid(51), 2809);
        due("seat", x.seat(30), 0);
        due("seat", x.seat(40), 1);
        for (int what = 1; what <= 4; what++) {
            due("player(0, " + what + ")", x.player(0, what), 0);
        }
        yes("deal", x.deal());
        yes("no seal is left", sealOfThrows(x, 0));
        toPlay(x);
        due("phase", x.state(0), 4);
        due("in", x.player(0, 3), 1);
        yes("no place is dealt", x.assign(3, 0) && x.assign(4, NONE));
        finish(x);
        due("no cheat is left", x.audit(), 0);
        chips(x, 30, 40);
    }

    // ---- promise 4

    private static void seat() {
        OpenDeal x = new OpenDeal();
        for (int c : new int[] {0, -1, 100001, Integer.MIN_VALUE, Integer.MAX_VALUE}) {
            due("seat(" + c + ")", x.seat(c), NONE);
        }
        due("none sits", x.state(1), 0);
        due("first", x.seat(1), 0);
        due("second", x.seat(100000), 1);
        due("third", x.seat(7), 2);
        due("fourth", x.seat(8), 3);
        due("fifth", x.seat(9), NONE);
        due("players", x.state(1), 4);
        chips(x, 1, 100000, 7, 8);
        for (int phase = 1; phase <= 6; phase++) {
            due("seat in phase " + phase, inPhase(phase).seat(5), NONE);
        }
    }

    // ---- promise 5

    private static void deal() {
        OpenDeal x = new OpenDeal();
        x.seat(5);
        x.seat(5);
        no("without P", x.deal());
        due("phase", x.state(0), 0);
        x.prime(P);
        yes("with P", x.deal());
        due("phase", x.state(0), 1);
        OpenDeal alone = new OpenDeal();
        alone.prime(P);
        no("none", alone.deal());
        alone.seat(5);
        no("one alone", alone.deal());
        for (int phase = 1; phase <= 5; phase++) {
            OpenDeal y = inPhase(phase);
            no("deal in phase " + phase, y.deal());
            due("phase", y.state(0), phase);
        }
        dealAgain();
        dealWithoutChips();
    }

    private static void dealAgain() {
        OpenDeal x = inPhase(6);
        yes("in phase 6", x.deal());
        due("phase", x.state(0), 1);
        yes("seals are forgotten", sealOfThrows(x, 0));
        due("gifts are forgotten", x.player(0, 4), 0);
        due("the deck is new", x.laid(7), 81);
        toPlay(x);
        due("the folded one is in again", x.player(0, 3), 1);
        due("no place is open", x.open(0, 3), NONE);
        no("no place is dealt", x.give(1, 3));
        yes("a place can be dealt again", x.assign(3, 1));
        x.give(0, 3);
        finish(x);
        due("no cheat is left", x.audit(), 0);
    }

    private static void dealWithoutChips() {
        OpenDeal x = playing(10, 20);
        x.round();
        x.bet(0, 2, 10);
        x.bet(1, 1, 0);
        x.settle(0x10);
        showAll(x);
        chips(x, 0, 30);
        no("one has no chips", x.deal());
        due("phase", x.state(0), 6);
    }

    // ---- promise 6

    private static void seal() {
        OpenDeal x = begun(P, 10, 10);
        for (int k : OUTSIDE_PLAYERS) {
            no("seal of player " + k, x.seal(k, 3, 1, 1));
        }
        no("seal of NONE", x.seal(NONE, 3, 1, 1));
        yes("the last first", x.seal(1, 3, 1, 1));
        no("twice", x.seal(1, 5, 2, 2));
        due("phase", x.state(0), 1);
        yes("the other", x.seal(0, 3, 1, 1));
        due("phase", x.state(0), 2);
        for (int phase = 0; phase <= 6; phase++) {
            if (phase != 1) {
                no("seal in phase " + phase, inPhase(phase).seal(0, 3, 1, 1));
            }
        }
    }

    private static void sealedExponents() {
        for (int p : new int[] {65543, 2147483579}) {
            int half = (p - 1) / 2;
            int[] some = {
                Integer.MIN_VALUE, -3, -1, 0, 1, 2, 3, 4, 5, 6, 7, 1000, 1001, half - 2, half - 1, half, half + 1,
                half + 2, p - 5, p - 4, p - 3, p - 2, p - 1, p, p - 1 + 3, Integer.MAX_VALUE
            };
            for (int e : some) {
                OpenDeal x = begun(p, 10, 10);
                due("seal with " + e + " for " + p, x.seal(0, e, 1, 1) ? 1 : 0, isExponent(e, p) ? 1 : 0);
                due("sealed", sealOfThrows(x, 0) ? 0 : 1, isExponent(e, p) ? 1 : 0);
            }
        }
    }

    // ---- promise 7

    private static void sealOf() {
        OpenDeal x = begun(P, 10, 10);
        yes("not sealed", sealOfThrows(x, 0));
        x.seal(0, 3, 1, 2);
        due("sealOf(0)", x.sealOf(0), -551720316011286378L);
        yes("not sealed", sealOfThrows(x, 1));
        x.seal(1, 7, 5, -9);
        due("sealOf(1)", x.sealOf(1), 3546000924491297337L);
        for (int k : OUTSIDE_PLAYERS) {
            yes("sealOf(" + k + ") throws", sealOfThrows(x, k));
        }
        yes("sealOf(NONE) throws", sealOfThrows(x, NONE));
        OpenDeal y = inPhase(6);
        due("in phase 6", y.sealOf(0), x.sealOf(0));
    }

    // ---- promise 8

    private static void turn() {
        OpenDeal x = begun(P, 10, 10);
        no("in phase 1", x.turn(0));
        sealAll(x);
        no("not its turn", x.turn(1));
        for (int k : OUTSIDE_PLAYERS) {
            no("turn(" + k + ")", x.turn(k));
        }
        no("turn(NONE)", x.turn(NONE));
        due("nothing is done", x.laid(0), 4);
        yes("0 locks", x.turn(0));
        int[] order = order(orderKey(0));
        for (int j = 0; j < 52; j++) {
            due("laid(" + j + ")", x.laid(j), pow((order[j] + 2) * (order[j] + 2), exponent(0), P));
        }
        no("twice", x.turn(0));
        due("phase", x.state(0), 2);
        yes("1 locks", x.turn(1));
        due("phase", x.state(0), 3);
        no("not its turn", x.turn(1));
        int[] before = new int[52];
        for (int j = 0; j < 52; j++) {
            before[j] = x.laid(j);
        }
        yes("0 relocks", x.turn(0));
        long[] locks = locks(locksKey(0), P);
        for (int j = 0; j < 52; j++) {
            long unlocked = pow(before[j], inverse(exponent(0), P), P);
            due("laid(" + j + ")", x.laid(j), pow(unlocked, locks[j], P));
        }
        no("twice", x.turn(0));
        yes("1 relocks", x.turn(1));
        due("phase", x.state(0), 4);
        for (int k = -1; k <= 2; k++) {
            no("in phase 4", x.turn(k));
        }
        no("in phase 0", inPhase(0).turn(0));
        no("in phase 5", inPhase(5).turn(0));
        no("in phase 6", inPhase(6).turn(0));
    }

    private static void turnWithFour() {
        int p = 2147483579;
        OpenDeal x = begun(p, 10, 10, 10, 10);
        sealAll(x);
        long[] deck = new long[52];
        for (int i = 0; i < 52; i++) {
            deck[i] = (i + 2) * (i + 2);
        }
        for (int t = 0; t < 8; t++) {
            int k = t % 4;
            due("next", x.state(2), k);
            yes("turn " + t, x.turn(k));
            int[] order = order(orderKey(k));
            long[] locks = locks(locksKey(k), p);
            long[] after = new long[52];
            for (int j = 0; j < 52; j++) {
                after[j] = t < 4 ? pow(deck[order[j]], exponent(k), p)
                        : pow(pow(deck[j], inverse(exponent(k), p), p), locks[j], p);
                due("turn " + t + " laid(" + j + ")", x.laid(j), after[j]);
            }
            deck = after;
        }
        due("phase", x.state(0), 4);
    }

    // ---- promise 9

    private static void laid() {
        OpenDeal x = new OpenDeal();
        yes("no P", laidThrows(x, 0));
        x.prime(P);
        for (int i = 0; i < 52; i++) {
            due("laid(" + i + ")", x.laid(i), (i + 2) * (i + 2));
        }
        for (int phase = 0; phase <= 6; phase++) {
            OpenDeal y = inPhase(phase);
            for (int place : OUTSIDE_PLACES) {
                yes("laid(" + place + ") throws in phase " + phase, laidThrows(y, place));
            }
        }
        OpenDeal z = playing(10, 10);
        int before = z.laid(3);
        z.assign(3, NONE);
        z.give(0, 3);
        z.give(1, 3);
        z.open(0, 3);
        finish(z);
        due("the deck lies on", z.laid(3), before);
    }

    // ---- promise 10

    private static void assign() {
        OpenDeal x = playing(10, 10);
        for (int place : OUTSIDE_PLACES) {
            no("place " + place, x.assign(place, 0));
        }
        for (int k : OUTSIDE_PLAYERS) {
            no("to player " + k, x.assign(0, k));
        }
        yes("to a player", x.assign(0, 1));
        yes("to the table", x.assign(51, NONE));
        no("dealt", x.assign(0, 1));
        no("dealt", x.assign(0, 0));
        no("dealt", x.assign(0, NONE));
        no("dealt", x.assign(51, NONE));
        no("dealt", x.assign(51, 0));
        yes("it is that of player 1", x.give(0, 0) && x.open(0, 0) == NONE && x.open(1, 0) != NONE);
        for (int phase = 0; phase <= 6; phase++) {
            if (phase != 4) {
                no("assign in phase " + phase, inPhase(phase).assign(9, 0));
            }
        }
    }

    // ---- promise 11

    private static void give() {
        OpenDeal x = playing(10, 10, 10);
        no("not dealt", x.give(0, 5));
        x.assign(5, 1);
        x.assign(6, NONE);
        for (int k : OUTSIDE_PLAYERS) {
            if (k != 2) {
                no("player " + k, x.give(k, 5));
            }
        }
        no("player NONE", x.give(NONE, 5));
        no("player NONE of the table's", x.give(NONE, 6));
        for (int place : OUTSIDE_PLACES) {
            no("place " + place, x.give(0, place));
        }
        no("to itself", x.give(1, 5));
        yes("0 gives", x.give(0, 5));
        no("twice", x.give(0, 5));
        yes("2 gives", x.give(2, 5));
        for (int k = 0; k < 3; k++) {
            yes("of the table", x.give(k, 6));
            no("twice", x.give(k, 6));
        }
        for (int phase = 0; phase <= 6; phase++) {
            if (phase != 4) {
                no("give in phase " + phase, inPhase(phase).give(1, 3));
            }
        }
        yes("in phase 4", inPhase(4).give(1, 3));
    }

    // ---- promise 12

    private static void open() {
        OpenDeal x = playing(10, 10, 10);
        int card = order(orderKey(0))[order(orderKey(1))[order(orderKey(2))[5]]];
        due("not dealt", x.open(1, 5), NONE);
        x.assign(5, 1);
        due("none given", x.open(1, 5), NONE);
        x.give(0, 5);
        due("one is missing", x.open(1, 5), NONE);
        x.give(2, 5);
        due("to its player", x.open(1, 5), card);
        due("again", x.open(1, 5), card);
        due("to another", x.open(0, 5), NONE);
        due("to another", x.open(2, 5), NONE);
        for (int k : OUTSIDE_PLAYERS) {
            due("to player " + k, k == 2 ? NONE : x.open(k, 5), NONE);
        }
        for (int place : OUTSIDE_PLACES) {
            due("place " + place, x.open(1, place), NONE);
        }
        x.assign(6, NONE);
        x.give(0, 6);
        x.give(1, 6);
        due("one of the table", x.open(2, 6), NONE);
        x.give(2, 6);
        card = order(orderKey(0))[order(orderKey(1))[order(orderKey(2))[6]]];
        for (int k = 0; k < 3; k++) {
            due("one of the table", x.open(k, 6), card);
        }
        due("to NONE", x.open(NONE, 6), NONE);
        due("to a fourth", x.open(3, 6), NONE);
        x.settle(0);
        due("in phase 5", x.open(0, 6), card);
        showAll(x);
        due("in phase 6", x.open(0, 6), card);
        x.deal();
        due("in phase 1", x.open(0, 6), NONE);
        sealAll(x);
        due("in phase 2", x.open(0, 6), NONE);
        turnAll(x);
        due("in phase 3", x.open(0, 6), NONE);
        turnAll(x);
        due("in phase 4", x.open(0, 6), NONE);
    }

    private static void openAll() {
        OpenDeal x = playing(10, 10);
        int seen = 0;
        long cards = 0;
        for (int place = 0; place < 52; place++) {
            x.assign(place, NONE);
            x.give(0, place);
            x.give(1, place);
            int card = x.open(0, place);
            due("card at " + place, card, order(orderKey(0))[order(orderKey(1))[place]]);
            cards |= 1L << card;
            seen++;
        }
        due("each card once", Long.bitCount(cards), seen);
    }

    // ---- promise 13

    private static void round() {
        for (int phase = 0; phase <= 6; phase++) {
            if (phase != 4) {
                no("round in phase " + phase, inPhase(phase).round());
            }
        }
        OpenDeal x = playing(10, 10);
        yes("round", x.round());
        no("one is under way", x.round());
        due("the first acts", x.state(2), 0);
        x.bet(0, 2, 3);
        no("one is under way", x.round());
        x.bet(1, 1, 0);
        yes("a second", x.round());
        due("nothing is put in", x.state(4), 0);
        due("nothing is put in", x.player(0, 2), 0);
        due("the first acts", x.state(2), 0);
    }

    private static void roundEndsAtOnce() {
        OpenDeal x = playing(10, 10, 30, 30);
        x.round();
        x.bet(0, 0, 0);
        x.bet(1, 2, 10);
        x.bet(2, 1, 0);
        x.bet(3, 1, 0);
        yes("round", x.round());
        due("the first that is IN and has chips", x.state(2), 2);
        x.bet(2, 0, 0);
        due("1 has no chips, 3 has", x.state(2), 3);
        x.bet(3, 1, 0);
        due("over", x.state(2), NONE);
        yes("round", x.round());
        due("only 3 has chips: over at once", x.state(2), NONE);
        no("no bet", x.bet(3, 1, 0));
        yes("round", x.round());
        yes("settle", x.settle(0));
        OpenDeal y = playing(10, 10);
        y.round();
        y.bet(0, 0, 0);
        yes("only one is IN", y.round());
        due("over at once", y.state(2), NONE);
    }

    // ---- promise 14

    private static void bet() {
        OpenDeal x = playing(20, 20, 20);
        no("no round", x.bet(0, 1, 0));
        no("no round, NONE", x.bet(NONE, 1, 0));
        x.round();
        for (int kind : new int[] {Integer.MIN_VALUE, -1, 3, 4, Integer.MAX_VALUE}) {
            no("kind " + kind, x.bet(0, kind, 1));
        }
        no("not its turn", x.bet(1, 1, 0));
        no("not its turn", x.bet(2, 0, 0));
        no("NONE", x.bet(NONE, 1, 0));
        no("nobody", x.bet(3, 1, 0));
        for (int n : new int[] {Integer.MIN_VALUE, -1, 0, 21, Integer.MAX_VALUE}) {
            no("RAISE by " + n, x.bet(0, 2, n));
        }
        due("0 is still to act", x.state(2), 0);
        chips(x, 20, 20, 20);
        yes("RAISE by 1", x.bet(0, 2, 1));
        chips(x, 19, 20, 20);
        no("20 is one too many", x.bet(1, 2, 20));
        no("as many as there are numbers", x.bet(1, 2, Integer.MAX_VALUE));
        yes("19 is all", x.bet(1, 2, 19));
        chips(x, 19, 0, 20);
        due("most", x.state(4), 20);
        yes("CALL, with another n", x.bet(2, 1, -77));
        due("0 is to act", x.state(2), 0);
        yes("CALL", x.bet(0, 1, 5));
        chips(x, 0, 0, 0);
        due("over", x.state(2), NONE);
        due("in all", x.state(3), 60);
    }

    private static void betAround() {
        OpenDeal x = playing(100, 100, 100, 100);
        x.round();
        x.bet(0, 1, 0);
        x.bet(1, 0, 0);
        x.bet(2, 2, 5);
        due("3 acts behind 2", x.state(2), 3);
        x.bet(3, 2, 10);
        due("around to 0", x.state(2), 0);
        x.bet(0, 1, 0);
        due("1 has folded", x.state(2), 2);
        due("2 is in with", x.player(2, 2), 5);
        x.bet(2, 1, 0);
        due("3 raised: over", x.state(2), NONE);
        chips(x, 85, 100, 85, 85);
        x.round();
        x.bet(0, 1, 0);
        x.bet(2, 1, 0);
        due("not over before 3 acted", x.state(2), 3);
        x.bet(3, 1, 0);
        due("all called nothing", x.state(2), NONE);
        due("in all", x.state(3), 45);
    }

    private static void betAllIn() {
        OpenDeal x = playing(10, 30, 100);
        x.round();
        x.bet(0, 1, 0);
        x.bet(1, 2, 30);
        x.bet(2, 1, 0);
        due("0 has not acted since", x.state(2), 0);
        no("no chips to RAISE", x.bet(0, 2, 1));
        yes("CALL with all it has", x.bet(0, 1, 0));
        chips(x, 0, 0, 70);
        due("over", x.state(2), NONE);
        OpenDeal y = playing(100, 30);
        y.round();
        y.bet(0, 1, 0);
        y.bet(1, 2, 30);
        due("the only one with chips is still asked", y.state(2), 0);
        yes("it may even RAISE", y.bet(0, 2, 5));
        due("over", y.state(2), NONE);
        chips(y, 65, 0);
    }

    private static void betLastOneIn() {
        OpenDeal x = playing(10, 10, 10);
        x.round();
        x.bet(0, 0, 0);
        due("1 acts", x.state(2), 1);
        x.bet(1, 0, 0);
        due("2 is alone: over", x.state(2), NONE);
        no("2 can't act", x.bet(2, 1, 0));
        due("0 is out", x.player(0, 3), 0);
        due("2 is in", x.player(2, 3), 1);
    }

    // ---- promise 15

    private static void settleLayers() {
        OpenDeal x = playing(10, 30, 100, 60);
        x.round();
        x.bet(0, 2, 10);
        x.bet(1, 2, 20);
        x.bet(2, 2, 40);
        x.bet(3, 1, 0);
        due("in all", x.state(3), 10 + 30 + 70 + 60);
        yes("settle", x.settle(0x1123));
        // 40 to 0; 60 to 1; the layer of 30 of 2 and 3 is shared; 10 goes back to 2.
        chips(x, 40, 60, 30 + 30 + 10, 30);
        due("phase", x.state(0), 5);
        due("nothing is in", x.state(3), 0);
        OpenDeal y = playing(10, 30, 100, 60);
        y.round();
        y.bet(0, 2, 10);
        y.bet(1, 2, 20);
        y.bet(2, 2, 40);
        y.bet(3, 1, 0);
        yes("bits above those of player 3 count nothing", y.settle(0xFFFF0000 | 0xF001));
        chips(y, 0, 0, 30 + 10, 160);
    }

    private static void settleSharesAndRest() {
        OpenDeal x = playing(10, 10, 10, 10);
        x.round();
        x.bet(0, 2, 1);
        x.bet(1, 2, 4);
        x.bet(2, 1, 0);
        x.bet(3, 1, 0);
        x.bet(0, 0, 0);
        // Layers: 1 of four players, 4 of three; 0 has folded and wins nothing, for all its rank.
        yes("settle", x.settle(0x777F));
        chips(x, 9, 5 + 2 + 4, 5 + 1 + 4, 5 + 1 + 4);
        OpenDeal y = playing(10, 10, 10);
        y.round();
        y.bet(0, 2, 5);
        y.bet(1, 1, 0);
        y.bet(2, 1, 0);
        yes("settle", y.settle(0x550));
        chips(y, 5, 5 + 8, 5 + 7);
        OpenDeal z = playing(10, 10);
        yes("without a bet", z.settle(-1));
        chips(z, 10, 10);
    }

    private static void settleNoneIn() {
        OpenDeal x = playing(10, 40, 40);
        x.round();
        x.bet(0, 2, 10);
        x.bet(1, 2, 10);
        x.bet(2, 1, 0);
        x.round();
        x.bet(1, 0, 0);
        due("1 folded, 2 has chips and is to act", x.state(2), 2);
        x.bet(2, 0, 0);
        due("only 0 is IN", x.state(2), NONE);
        x.settle(0);
        // 30 to 0; the layer of 10 above was put in by folded ones alone and goes back to them.
        chips(x, 30, 30, 30);
        OpenDeal y = playing(10, 40, 40, 40);
        y.round();
        y.bet(0, 2, 10);
        y.bet(1, 1, 0);
        y.bet(2, 1, 0);
        y.bet(3, 1, 0);
        y.round();
        y.bet(1, 2, 7);
        y.bet(2, 2, 3);
        y.bet(3, 0, 0);
        y.bet(1, 0, 0);
        y.settle(0xF0F1);
        // 40 to 0, 14 and 3 to 2: the greater RANKS are those of folded ones.
        chips(y, 40, 23, 20 + 17, 30);
    }

    private static void settleRefused() {
        for (int phase = 0; phase <= 6; phase++) {
            no("settle in phase " + phase, inPhase(phase).settle(0));
        }
        OpenDeal x = inPhase(4);
        due("a round is under way", x.state(2), 2);
        due("nothing is paid", x.state(3), 20);
        x.bet(2, 1, 0);
        yes("behind it", x.settle(0));
        no("twice", x.settle(0));
    }

    // ---- promise 16

    private static void show() {
        OpenDeal x = playing(10, 10);
        no("in phase 4", x.show(0));
        x.settle(0);
        for (int k : OUTSIDE_PLAYERS) {
            no("show(" + k + ")", x.show(k));
        }
        no("show(NONE)", x.show(NONE));
        yes("show(1)", x.show(1));
        no("twice", x.show(1));
        due("phase", x.state(0), 5);
        yes("show(0)", x.show(0));
        due("phase", x.state(0), 6);
        no("in phase 6", x.show(0));
        for (int phase = 0; phase <= 4; phase++) {
            no("show in phase " + phase, inPhase(phase).show(0));
        }
    }

    // ---- promise 17

    private static void audit() {
        for (int phase = 0; phase <= 5; phase++) {
            yes("audit throws in phase " + phase, auditThrows(inPhase(phase)));
        }
        OpenDeal x = playing(10, 10, 10, 10);
        for (int place = 0; place < 52; place++) {
            x.assign(place, place % 5 - 1);
            for (int k = 0; k < 4; k++) {
                x.give(k, place);
            }
        }
        finish(x);
        due("all fits", x.audit(), 0);
        due("again", x.audit(), 0);
        for (int k = 0; k < 4; k++) {
            due("seal", audited(cheats(k, 3, 0)), 16 * k + 1);
            due("seal", audited(cheats(k, 4, 0)), 16 * k + 1);
            due("lock", audited(cheats(k, 0, 51)), 16 * k + 2);
            due("relock", audited(cheats(k, 1, 51)), 16 * k + 3);
            due("given", audited(cheats(k, 2, 7)), 16 * k + 4);
        }
    }

    private static int[] cheats(int... triples) {
        return triples;
    }

    /** The verdict of a hand of four with these cheats (player, kind, place), all LOCKS of 5 .. 8 given. */
    private static int audited(int[] cheats) {
        OpenDeal x = begun(P, 10, 10, 10, 10);
        for (int i = 0; i < cheats.length; i += 3) {
            x.cheat(cheats[i], cheats[i + 1], cheats[i + 2]);
        }
        toPlay(x);
        for (int place = 5; place <= 8; place++) {
            x.assign(place, NONE);
            for (int k = 0; k < 4; k++) {
                x.give(k, place);
            }
        }
        finish(x);
        return x.audit();
    }

    private static void auditOrder() {
        due("1 before 2", audited(cheats(0, 0, 0, 3, 3, 0)), 16 * 3 + 1);
        due("2 before 3", audited(cheats(0, 1, 0, 3, 0, 0)), 16 * 3 + 2);
        due("3 before 4", audited(cheats(0, 2, 5, 3, 1, 0)), 16 * 3 + 3);
        due("first 1", audited(cheats(2, 3, 0, 1, 4, 0)), 16 * 1 + 1);
        due("first 2", audited(cheats(3, 0, 0, 2, 0, 51)), 16 * 2 + 2);
        due("first 3", audited(cheats(3, 1, 0, 2, 1, 51)), 16 * 2 + 3);
        due("the place counts before the player", audited(cheats(0, 2, 8, 3, 2, 6)), 16 * 3 + 4);
        due("then the player", audited(cheats(3, 2, 6, 1, 2, 6)), 16 * 1 + 4);
        due("a LOCK that was not given is no fault", audited(cheats(1, 2, 9)), 0);
    }

    // ---- promise 18

    private static void cheat() {
        for (int phase = 0; phase <= 6; phase++) {
            OpenDeal x = inPhase(phase);
            boolean may = phase >= 1 && phase <= 5;
            for (int kind = 0; kind < 5; kind++) {
                due("cheat in phase " + phase, x.cheat(2, kind, 0) ? 1 : 0, may ? 1 : 0);
                due("again", x.cheat(2, kind, 0) ? 1 : 0, may ? 1 : 0);
                due("last place", x.cheat(0, kind, 51) ? 1 : 0, may ? 1 : 0);
                no("nobody", x.cheat(3, kind, 0));
                no("NONE", x.cheat(NONE, kind, 0));
                for (int place : OUTSIDE_PLACES) {
                    no("place " + place, x.cheat(0, kind, place));
                }
            }
            for (int kind : new int[] {Integer.MIN_VALUE, -1, 5, 6, Integer.MAX_VALUE}) {
                no("kind " + kind, x.cheat(0, kind, 0));
            }
        }
    }

    private static void cheatLaying() {
        for (int kind = 0; kind <= 1; kind++) {
            OpenDeal honest = begun(P, 10, 10);
            OpenDeal x = begun(P, 10, 10);
            sealAll(honest);
            sealAll(x);
            if (kind == 1) {
                turnAll(honest);
                turnAll(x);
            }
            x.cheat(0, kind, 3);
            x.cheat(0, kind, 3);
            x.cheat(0, kind, 40);
            x.cheat(0, 1 - kind, 5);
            x.cheat(1, kind, 6);
            honest.turn(0);
            x.turn(0);
            for (int j = 0; j < 52; j++) {
                due("kind " + kind + " laid(" + j + ")", x.laid(j), honest.laid(j) + (j == 3 || j == 40 ? 1 : 0));
            }
        }
        OpenDeal late = begun(P, 10, 10);
        sealAll(late);
        late.turn(0);
        yes("too late", late.cheat(0, 0, 3));
        late.turn(1);
        turnAll(late);
        yes("too late", late.cheat(1, 1, 3));
        finish(late);
        due("nothing was wrong", late.audit(), 0);
    }

    private static void cheatGiving() {
        OpenDeal x = playing(10, 10);
        x.assign(3, NONE);
        x.assign(4, 0);
        x.give(1, 4);
        int card = order(orderKey(0))[order(orderKey(1))[4]];
        x.cheat(1, 2, 4);
        x.cheat(0, 2, 4);
        due("given before it was told; its own is as it is", x.open(0, 4), card);
        x.cheat(1, 2, 3);
        x.give(0, 3);
        x.give(1, 3);
        due("given wrong", x.open(0, 3), 52);
        due("gifts", x.player(1, 4), 2);
        finish(x);
        due("audit", x.audit(), 16 + 4);
    }

    private static void cheatShowing() {
        for (int kind = 3; kind <= 4; kind++) {
            OpenDeal x = playing(10, 10);
            x.settle(0);
            x.show(0);
            yes("too late", x.cheat(0, kind, 0));
            yes("in time", x.cheat(1, kind, 0));
            long sealed = x.sealOf(1);
            x.show(1);
            due("the seal stays", x.sealOf(1), sealed);
            due("audit", x.audit(), 16 + 1);
            x.deal();
            toPlay(x);
            finish(x);
            due("in this hand alone", x.audit(), 0);
        }
        int[] edges = {3, (P - 1) / 2 - 2, P - 2};
        for (int e : edges) {
            OpenDeal x = begun(P, 10, 10);
            x.cheat(0, 3, 0);
            x.seal(0, e, -1, 5);
            x.seal(1, 3, Long.MAX_VALUE, 5);
            turnAll(x);
            turnAll(x);
            finish(x);
            due("audit of " + e, x.audit(), 1);
        }
    }

    // ---- promise 19

    private static void state() {
        for (int what : new int[] {Integer.MIN_VALUE, -1, 5, 6, Integer.MAX_VALUE}) {
            due("state(" + what + ")", inPhase(4).state(what), NONE);
        }
        int[] next = {NONE, NONE, 1, 1, 2, NONE, NONE};
        int[] in = {0, 0, 0, 0, 20, 0, 0};
        for (int phase = 0; phase <= 6; phase++) {
            OpenDeal x = inPhase(phase);
            due("phase", x.state(0), phase);
            due("players", x.state(1), 3);
            due("next in phase " + phase, x.state(2), next[phase]);
            due("in all in phase " + phase, x.state(3), in[phase]);
            due("most in phase " + phase, x.state(4), in[phase]);
        }
        OpenDeal x = inPhase(4);
        x.bet(2, 2, 7);
        due("in all", x.state(3), 47);
        due("most", x.state(4), 27);
        x.bet(1, 1, 0);
        due("in all, behind the round", x.state(3), 54);
        due("most, behind the round", x.state(4), 0);
        x.round();
        x.bet(1, 2, 3);
        due("in all", x.state(3), 57);
        due("most in this round", x.state(4), 3);
    }

    // ---- promise 20

    private static void player() {
        OpenDeal x = inPhase(4);
        for (int k : new int[] {Integer.MIN_VALUE, -1, 3, 4, Integer.MAX_VALUE}) {
            due("player " + k, x.player(k, 0), NONE);
        }
        for (int what : new int[] {Integer.MIN_VALUE, -1, 5, Integer.MAX_VALUE}) {
            due("what " + what, x.player(0, what), NONE);
        }
        due("chips", x.player(1, 0), 80);
        due("in this hand", x.player(1, 1), 20);
        due("in this round", x.player(1, 2), 20);
        due("IN", x.player(1, 3), 1);
        due("folded", x.player(0, 3), 0);
        due("gave", x.player(0, 4), 1);
        due("gave", x.player(1, 4), 0);
        x.bet(2, 1, 0);
        due("in this hand", x.player(1, 1), 20);
        due("no round", x.player(1, 2), 0);
        x.round();
        x.bet(1, 2, 3);
        due("in this hand", x.player(1, 1), 23);
        due("in this round", x.player(1, 2), 3);
        x.bet(2, 1, 0);
        x.settle(0x110);
        due("behind settle", x.player(1, 1), 0);
        due("chips", x.player(1, 0), 100);
        due("IN in phase 5", x.player(1, 3), 1);
        due("folded in phase 5", x.player(0, 3), 0);
        showAll(x);
        due("IN in phase 6", x.player(1, 3), 1);
        due("gave in phase 6", x.player(0, 4), 1);
        x.deal();
        due("gave in this hand", x.player(0, 4), 0);
        for (int phase = 0; phase <= 3; phase++) {
            for (int k = 0; k < 3; k++) {
                due("IN in phase " + phase, inPhase(phase).player(k, 3), 0);
                due("chips in phase " + phase, inPhase(phase).player(k, 0), 100);
            }
        }
    }
}
