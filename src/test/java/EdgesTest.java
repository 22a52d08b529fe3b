/**
 * The sentences of the promises that name a boundary case: the answer at the case itself and just
 * beside it. Promises 17 and 18 are in AuditTest, the rules of bets and of paying out in BetsTest.
 */
public final class EdgesTest extends Checks {
    private static final int[] NOT_OF_TWO = {Integer.MIN_VALUE, -2, -1, 2, 3, 4, Integer.MAX_VALUE};
    private static final int[] NOT_OF_FOUR = {Integer.MIN_VALUE, -2, -1, 4, 5, Integer.MAX_VALUE};

    /** The numbers of the cards that lie, locked, where two players have locked the deck. */
    private static final long[] LYING = numbersLying();

    public static void main(String[] args) {
        about("1: No P, no players, PHASE 0.");
        newObject();
        about("2: false, changing nothing, if it is not as told, or there is one already (clear() takes it away).");
        primeIsRefused();
        primeIsThere();
        about("3: All is forgotten.");
        cleared();
        about("4: A player with chips (1 .. 100000) takes a seat: its number");
        seatChips();
        about("4: NONE if there are four, the PHASE is not 0, or for other chips.");
        seatIsRefused();
        about("5: false if there is no P, fewer than two players, the PHASE is not 0 or 6, or a player has no chips.");
        dealWithoutPrime();
        dealToFew();
        dealInPhases();
        dealWithoutChips();
        about("6: false if there is none such, the PHASE is not 1, it has, or e is no EXPONENT.");
        sealIsRefused();
        about("7: IndexOutOfBoundsException: there is none such, or it has not sealed.");
        sealOfThrows();
        about("8: A player takes its turn in PHASE 2 or 3: true; false if it is not its turn.");
        turnIsRefused();
        about("9: of the deck as the latest turn left it (at first the NUMBERS of cards, with a P). IndexOutOfBoundsException: there is no such place, or no P.");
        laidThrows();
        laidByTheLatestTurn();
        about("10: A place is dealt to a player, or (NONE) to the table: true; false if there is none such, the PHASE is not 4, or it is dealt.");
        assignIsRefused();
        about("11: false if there is none such, the PHASE is not 4, the place is not dealt, or to itself, or it has given it.");
        giveIsRefused();
        about("12: the card; 52 if it is the number of none");
        openNumbers();
        about("12: NONE if it may not be (or there is none such, the PHASE is below 4).");
        openIsRefused();
        openInPhases();
        about("13: false if the PHASE is not 4, or one is under way.");
        roundIsRefused();
        about("14: kind 0: FOLD, 1: CALL, 2: RAISE by n: true; false if no ROUND is under way, it is not its turn to act, or refused, or for another kind.");
        betIsRefused();
        about("15: Paid out by RANKS (that of player k: bits 4 * k .. 4 * k + 3)");
        ranksByBits();
        about("15: false if the PHASE is not 4, or a ROUND is under way.");
        settleIsRefused();
        about("16: false if there is none such, the PHASE is not 5, or it has.");
        showIsRefused();
        about("19: 2: who takes the next turn (PHASE 2, 3), or acts next (a ROUND is under way); NONE for none");
        stateNext();
        about("19: 3: chips put in in all and not paid out, 4: the most put in in this ROUND. NONE for another what.");
        stateChips();
        stateOther();
        about("20: 1: put in in this hand (0 behind SETTLE), 2: put in in this ROUND (0 if none is under way)");
        playerPutIn();
        about("20: 3: 1 if it is IN, else 0 (0 in PHASES 0 to 3)");
        playerIn();
        about("20: 4: how many LOCKS it gave in this hand.");
        playerGave();
        about("20: NONE if there is none such, or for another what.");
        playerOther();
        about("An object is used for at most 512 calls after it has been made");
        lastCalls();
        end();
    }

    // ---- promise 1

    private static void newObject() {
        OpenDeal x = new OpenDeal();
        due("PHASE", x.state(0), 0);
        due("players", x.state(1), 0);
        due("none is next", x.state(2), NONE);
        due("nothing is in", x.state(3), 0);
        due("nothing is the most", x.state(4), 0);
        for (int k = 0; k < 4; k++) {
            due("no player " + k, x.player(k, 0), NONE);
            yes("no SEAL", sealOfThrows(x, k));
        }
        yes("no P, no deck", laidThrows(x, 0));
        yes("no AUDIT", auditThrows(x));
        due("a seat is free", x.seat(1), 0);
        due("another", x.seat(1), 1);
        no("no P, no hand", x.deal());
        yes("a P can be had", x.prime(P));
        yes("a hand can begin", x.deal());
    }

    // ---- promise 2

    private static void primeIsRefused() {
        OpenDeal x = new OpenDeal();
        x.seat(10);
        x.seat(10);
        for (int p : new int[] {P - 1, P + 1, 65536, 65537, 65559, 0, -1, -P, Integer.MAX_VALUE, Integer.MIN_VALUE}) {
            no("prime(" + p + ")", x.prime(p));
            yes("there is none", laidThrows(x, 0));
            no("so no hand begins", x.deal());
        }
        yes("prime", x.prime(P));
        due("there is one", x.laid(0), 4);
        yes("so a hand begins", x.deal());
    }

    private static void primeIsThere() {
        for (int phase = 0; phase <= 6; phase++) {
            OpenDeal x = inPhase(phase);
            no("the same again, in PHASE " + phase, x.prime(P));
            no("another, in PHASE " + phase, x.prime(65579));
            no("a wrong one, in PHASE " + phase, x.prime(65537));
            due("PHASE", x.state(0), phase);
            x.clear();
            yes("clear() takes it away", x.prime(65579));
            no("and no more than that", x.prime(P));
        }
        OpenDeal x = begun(P, 10, 10);
        x.prime(65579);
        no("65577 would be an EXPONENT of the other", x.seal(0, 65577, 1, 1));
        yes("65541 is one of the first", x.seal(0, 65541, 1, 1));
    }

    // ---- promise 3

    private static void cleared() {
        for (int phase = 0; phase <= 6; phase++) {
            OpenDeal x = inPhase(phase);
            x.clear();
            due("PHASE", x.state(0), 0);
            due("players", x.state(1), 0);
            due("none is next", x.state(2), NONE);
            due("nothing is in", x.state(3), 0);
            due("nothing is the most", x.state(4), 0);
            for (int k = 0; k < 3; k++) {
                due("no player " + k, x.player(k, 0), NONE);
                yes("no SEAL of " + k, sealOfThrows(x, k));
            }
            yes("no P", laidThrows(x, 0));
            yes("no AUDIT", auditThrows(x));
            x.prime(P);
            for (int k = 0; k < 4; k++) {
                due("seat", x.seat(5), k);
                for (int what = 1; what <= 4; what++) {
                    due("player(" + k + ", " + what + ")", x.player(k, what), 0);
                }
                yes("no SEAL of " + k, sealOfThrows(x, k));
            }
            honestHandOf(x);
        }
        OpenDeal x = new OpenDeal();
        x.clear();
        due("cleared at once", x.seat(3), 0);
    }

    /** Nothing told, given, dealt, put in or folded before is left. */
    private static void honestHandOf(OpenDeal x) {
        yes("deal", x.deal());
        toPlay(x);
        due("PHASE", x.state(0), 4);
        yes("a place can be dealt", x.assign(3, NONE));
        for (int k = 0; k < 4; k++) {
            due("IN", x.player(k, 3), 1);
            due("not opened yet", x.open(0, 3), NONE);
            yes("a LOCK can be given", x.give(k, 3));
        }
        due("opened", x.open(0, 3), cardAt(3, 4));
        yes("round", x.round());
        due("the first acts", x.state(2), 0);
        for (int k = 0; k < 4; k++) {
            yes("CALL", x.bet(k, 1, 0));
        }
        finish(x);
        due("no cheat", x.audit(), 0);
        chips(x, 5, 5, 5, 5);
    }

    // ---- promise 4

    private static void seatChips() {
        for (int chips : new int[] {1, 2, 99999, 100000}) {
            OpenDeal x = new OpenDeal();
            due("seat(" + chips + ")", x.seat(chips), 0);
            due("chips", x.player(0, 0), chips);
            due("players", x.state(1), 1);
        }
        for (int chips : new int[] {0, -1, 100001, 100002, Integer.MIN_VALUE, Integer.MAX_VALUE}) {
            OpenDeal x = new OpenDeal();
            due("seat(" + chips + ")", x.seat(chips), NONE);
            due("players", x.state(1), 0);
            due("the first number is still free", x.seat(1), 0);
        }
    }

    private static void seatIsRefused() {
        OpenDeal x = seated(P, 1, 2, 3);
        due("a fourth", x.seat(4), 3);
        due("a fifth", x.seat(5), NONE);
        due("players", x.state(1), 4);
        chips(x, 1, 2, 3, 4);
        for (int phase = 0; phase <= 6; phase++) {
            OpenDeal y = inPhase(phase);
            due("in PHASE " + phase, y.seat(5), phase == 0 ? 3 : NONE);
            due("players", y.state(1), phase == 0 ? 4 : 3);
        }
    }

    // ---- promise 5

    private static void dealWithoutPrime() {
        OpenDeal x = new OpenDeal();
        x.seat(1);
        x.seat(1);
        no("no P", x.deal());
        due("PHASE", x.state(0), 0);
        x.prime(P);
        yes("a P", x.deal());
        due("PHASE", x.state(0), 1);
    }

    private static void dealToFew() {
        for (int players = 0; players <= 4; players++) {
            OpenDeal x = seated(P);
            for (int k = 0; k < players; k++) {
                x.seat(1);
            }
            due(players + " players", x.deal() ? 1 : 0, players >= 2 ? 1 : 0);
            due("PHASE", x.state(0), players >= 2 ? 1 : 0);
        }
    }

    private static void dealInPhases() {
        for (int phase = 0; phase <= 6; phase++) {
            OpenDeal x = inPhase(phase);
            boolean want = phase == 0 || phase == 6;
            due("in PHASE " + phase, x.deal() ? 1 : 0, want ? 1 : 0);
            due("PHASE", x.state(0), want ? 1 : phase);
            no("in the hand that has begun", x.deal());
        }
    }

    /** One of three is left with 1 chip, or with none. */
    private static void dealWithoutChips() {
        for (int loser = 0; loser < 3; loser++) {
            for (int left = 0; left <= 1; left++) {
                OpenDeal x = betting(10, 10, 10);
                int winner = (loser + 1) % 3;
                for (int k = 0; k < 3; k++) {
                    boolean folds = k != loser && k != winner;
                    x.bet(k, folds ? 0 : x.state(4) == 0 ? 2 : 1, 10 - left);
                }
                x.settle(1 << 4 * winner);
                showAll(x);
                due("chips of " + loser, x.player(loser, 0), left);
                due(loser + " has " + left, x.deal() ? 1 : 0, left);
                due("PHASE", x.state(0), left == 1 ? 1 : 6);
            }
        }
    }

    // ---- promises 6 and 7

    private static void sealIsRefused() {
        OpenDeal x = begunBy(2);
        for (int k : NOT_OF_TWO) {
            no("player " + k, x.seal(k, 3, 1, 1));
        }
        for (int e : new int[] {2, 4, (P - 1) / 2, P - 3, P - 1}) {
            no("with " + e, x.seal(0, e, 1, 1));
        }
        yes("none of these has sealed", sealOfThrows(x, 0));
        yes("player 0", x.seal(0, 3, 1, 1));
        long mark = x.sealOf(0);
        no("it has", x.seal(0, 3, 1, 1));
        no("it has", x.seal(0, 5, 2, 2));
        due("its SEAL is the first", x.sealOf(0), mark);
        due("PHASE", x.state(0), 1);
        yes("player 1", x.seal(1, P - 2, 1, 1));
        for (int phase = 0; phase <= 6; phase++) {
            due("player 2 in PHASE " + phase, inPhase(phase).seal(2, 7, 5, 6) ? 1 : 0, phase == 1 ? 1 : 0);
        }
    }

    private static void sealOfThrows() {
        OpenDeal x = begunBy(4);
        for (int sealed = 0; sealed <= 4; sealed++) {
            for (int k = 0; k < 4; k++) {
                due("SEAL of " + k + " of " + sealed, sealOfThrows(x, k) ? 0 : 1, k < sealed ? 1 : 0);
            }
            for (int k : NOT_OF_FOUR) {
                yes("no SEAL of " + k, sealOfThrows(x, k));
            }
            if (sealed < 4) {
                sealOne(x, sealed);
            }
        }
        for (int phase = 0; phase <= 6; phase++) {
            due("SEAL of 0 in PHASE " + phase, sealOfThrows(inPhase(phase), 0) ? 0 : 1, phase >= 1 ? 1 : 0);
            due("SEAL of 2 in PHASE " + phase, sealOfThrows(inPhase(phase), 2) ? 0 : 1, phase >= 2 ? 1 : 0);
            yes("no player 3 in PHASE " + phase, sealOfThrows(inPhase(phase), 3));
        }
        OpenDeal next = inPhase(6);
        next.deal();
        yes("not in the next hand", sealOfThrows(next, 0));
    }

    // ---- promises 8 and 9

    private static void turnIsRefused() {
        OpenDeal x = begunBy(3);
        no("in PHASE 1", x.turn(0));
        sealAll(x);
        for (int phase = 2; phase <= 3; phase++) {
            for (int turn = 0; turn < 3; turn++) {
                for (int k : new int[] {Integer.MIN_VALUE, -1, 0, 1, 2, 3, 4, Integer.MAX_VALUE}) {
                    no(k + " in the turn of " + turn, k != turn && x.turn(k));
                }
                due("PHASE", x.state(0), phase);
                yes("turn of " + turn, x.turn(turn));
            }
        }
        for (int k = -1; k <= 3; k++) {
            no("in PHASE 4", x.turn(k));
        }
        for (int phase = 0; phase <= 6; phase++) {
            OpenDeal y = inPhase(phase);
            due("of " + y.state(2) + " in PHASE " + phase, y.turn(y.state(2)) ? 1 : 0, phase == 2 || phase == 3 ? 1 : 0);
        }
    }

    private static void laidThrows() {
        OpenDeal x = new OpenDeal();
        for (int place : new int[] {-1, 0, 51, 52}) {
            yes("no P, place " + place, laidThrows(x, place));
        }
        for (int phase = 0; phase <= 6; phase++) {
            OpenDeal y = inPhase(phase);
            no("place 0", laidThrows(y, 0));
            no("place 51", laidThrows(y, 51));
            for (int place : OUTSIDE_PLACES) {
                yes("place " + place, laidThrows(y, place));
            }
        }
    }

    private static void laidByTheLatestTurn() {
        OpenDeal x = begunBy(2);
        sealAll(x);
        long number = numberOf(0);
        due("before the first turn", x.laid(0), number);
        int before = x.laid(1);
        no("a turn that is refused", x.turn(1));
        due("leaves it", x.laid(1), before);
        turnAll(x);
        turnAll(x);
        int last = x.laid(0);
        x.assign(0, NONE);
        giveAll(x, 0);
        x.open(0, 0);
        due("no other call changes it", x.laid(0), last);
        finish(x);
        due("nor the hand's end", x.laid(0), last);
        x.deal();
        due("the next hand has a new one", x.laid(0), number);
    }

    // ---- promises 10 to 12

    private static void assignIsRefused() {
        OpenDeal x = playing(10, 10);
        for (int k : NOT_OF_TWO) {
            due("to player " + k, k != NONE && x.assign(0, k) ? 1 : 0, 0);
        }
        for (int place : OUTSIDE_PLACES) {
            no("place " + place + " to a player", x.assign(place, 0));
            no("place " + place + " to the table", x.assign(place, NONE));
        }
        yes("the first to the first", x.assign(0, 0));
        yes("the last to the last", x.assign(51, 1));
        yes("one to the table", x.assign(1, NONE));
        for (int place : new int[] {0, 51, 1}) {
            for (int k = NONE; k <= 1; k++) {
                no("dealt, place " + place + " to " + k, x.assign(place, k));
            }
        }
        for (int phase = 0; phase <= 6; phase++) {
            due("in PHASE " + phase, inPhase(phase).assign(4, 0) ? 1 : 0, phase == 4 ? 1 : 0);
            due("to the table in PHASE " + phase, inPhase(phase).assign(4, NONE) ? 1 : 0, phase == 4 ? 1 : 0);
            no("dealt before, in PHASE " + phase, inPhase(phase).assign(3, 0));
        }
    }

    private static void giveIsRefused() {
        OpenDeal x = playing(10, 10);
        x.assign(0, NONE);
        x.assign(50, 0);
        x.assign(51, 1);
        for (int k : NOT_OF_TWO) {
            no("player " + k + ", of the table", x.give(k, 0));
            no("player " + k + ", of a player", x.give(k, 51));
        }
        for (int place : OUTSIDE_PLACES) {
            no("place " + place, x.give(0, place));
        }
        no("place 1 is not dealt", x.give(0, 1));
        no("place 49 is not dealt", x.give(0, 49));
        no("dealt to itself", x.give(0, 50));
        yes("dealt to another", x.give(1, 50));
        yes("dealt to another", x.give(0, 51));
        no("dealt to itself", x.give(1, 51));
        for (int k = 0; k < 2; k++) {
            yes("of the table", x.give(k, 0));
            no("it has given it", x.give(k, 0));
        }
        no("it has given it", x.give(1, 50));
        for (int phase = 0; phase <= 6; phase++) {
            due("in PHASE " + phase, inPhase(phase).give(1, 3) ? 1 : 0, phase == 4 ? 1 : 0);
            no("given before, in PHASE " + phase, inPhase(phase).give(0, 3));
        }
    }

    private static void openNumbers() {
        opensAs(4, 0);
        opensAs(9, 1);
        opensAs(2704, 50);
        opensAs(2809, 51);
        opensAs(2916, 52);
        opensAs(3025, 52);
        opensAs(16 * 16, 14);
        opensAs(16 * 16 + 1, 52);
    }

    /** A wrong number is laid at a place that, opened, is this one: KEY of LOCKS and place are looked for. */
    private static void opensAs(int number, int card) {
        int[] first = fastLocks(locksKey(0));
        int place = NONE;
        long key = 0;
        while (place == NONE) {
            key++;
            int[] second = fastLocks(key);
            for (int j = 0; j < 52; j++) {
                long both = (long) first[j] * second[j] % (P - 1);
                place = fastPow(LYING[j], both, P) + 1 == fastPow(number, both, P) ? j : place;
            }
        }
        OpenDeal x = begunBy(2);
        sealOne(x, 0);
        x.seal(1, exponent(1), orderKey(1), key);
        x.cheat(1, 1, place);
        turnAll(x);
        turnAll(x);
        x.assign(place, 1);
        x.give(0, place);
        due("the number " + number, x.open(1, place), card);
    }

    private static long[] numbersLying() {
        long[] row = new long[52];
        for (int j = 0; j < 52; j++) {
            row[j] = numberOf(cardAt(j, 2));
        }
        return row;
    }

    private static void openIsRefused() {
        OpenDeal x = playing(10, 10);
        x.assign(0, NONE);
        x.assign(51, 1);
        x.give(0, 0);
        due("of the table, one LOCK is missing", x.open(0, 0), NONE);
        due("of the table, its own LOCK is missing", x.open(1, 0), NONE);
        due("of a player, one LOCK is missing", x.open(1, 51), NONE);
        x.give(1, 0);
        x.give(0, 51);
        due("of the table", x.open(0, 0), cardAt(0, 2));
        due("of the table", x.open(1, 0), cardAt(0, 2));
        due("of another", x.open(0, 51), NONE);
        due("its own", x.open(1, 51), cardAt(51, 2));
        for (int k : NOT_OF_TWO) {
            due("player " + k + ", of the table", x.open(k, 0), NONE);
            due("player " + k + ", of a player", x.open(k, 51), NONE);
        }
        for (int place : OUTSIDE_PLACES) {
            due("place " + place, x.open(0, place), NONE);
        }
        due("place 1 is not dealt", x.open(0, 1), NONE);
        due("place 50 is not dealt", x.open(1, 50), NONE);
    }

    private static void openInPhases() {
        OpenDeal x = playing(10, 10);
        x.assign(0, NONE);
        giveAll(x, 0);
        for (int phase = 4; phase <= 6; phase++) {
            due("PHASE", x.state(0), phase);
            due("in PHASE " + phase, x.open(1, 0), cardAt(0, 2));
            due("not dealt in PHASE " + phase, x.open(1, 1), NONE);
            if (phase == 4) {
                x.settle(0);
            } else {
                showAll(x);
            }
        }
        x.deal();
        due("in PHASE 1", x.open(1, 0), NONE);
        sealAll(x);
        due("in PHASE 2", x.open(1, 0), NONE);
        turnAll(x);
        due("in PHASE 3", x.open(1, 0), NONE);
        turnAll(x);
        due("in PHASE 4, not dealt", x.open(1, 0), NONE);
        due("in PHASE 0", seated(P, 10, 10).open(0, 0), NONE);
    }

    // ---- promises 13 to 16

    private static void roundIsRefused() {
        for (int phase = 0; phase <= 6; phase++) {
            due("in PHASE " + phase, idleInPhase(phase).round() ? 1 : 0, phase == 4 ? 1 : 0);
            no("under way, or another PHASE", inPhase(phase).round());
        }
        OpenDeal x = playing(10, 10);
        yes("the first", x.round());
        no("before any acts", x.round());
        x.bet(0, 1, 0);
        no("before all have acted", x.round());
        x.bet(1, 1, 0);
        yes("the next", x.round());
    }

    private static void betIsRefused() {
        OpenDeal x = playing(10, 10, 10);
        for (int kind = 0; kind <= 2; kind++) {
            for (int k = NONE; k <= 2; k++) {
                no("no ROUND is under way", x.bet(k, kind, 1));
            }
        }
        x.round();
        for (int kind = 0; kind <= 2; kind++) {
            for (int k : new int[] {Integer.MIN_VALUE, -1, 1, 2, 3, 4, Integer.MAX_VALUE}) {
                no("kind " + kind + " of " + k + " in the turn of 0", x.bet(k, kind, 1));
            }
        }
        for (int kind : new int[] {Integer.MIN_VALUE, -1, 3, Integer.MAX_VALUE}) {
            no("kind " + kind, x.bet(0, kind, 1));
        }
        no("refused", x.bet(0, 2, 0));
        no("refused", x.bet(0, 2, 11));
        due("0 is still to act", x.state(2), 0);
        yes("RAISE", x.bet(0, 2, 1));
        yes("CALL", x.bet(1, 1, 0));
        yes("FOLD", x.bet(2, 0, 0));
        due("put in", x.state(3), 2);
        for (int k = NONE; k <= 2; k++) {
            no("behind the ROUND", x.bet(k, 1, 0));
        }
    }

    /** Four put in 1 each: a single bit makes one player the winner, but for bits that are no RANK's. */
    private static void ranksByBits() {
        for (int bit = 0; bit < 32; bit++) {
            OpenDeal x = betting(10, 10, 10, 10);
            x.bet(0, 2, 1);
            x.bet(1, 1, 0);
            x.bet(2, 1, 0);
            x.bet(3, 1, 0);
            yes("settle", x.settle(1 << bit));
            for (int k = 0; k < 4; k++) {
                due("bit " + bit + ", chips of " + k, x.player(k, 0), bit >= 16 ? 10 : bit / 4 == k ? 13 : 9);
            }
        }
    }

    private static void settleIsRefused() {
        for (int phase = 0; phase <= 6; phase++) {
            OpenDeal x = idleInPhase(phase);
            due("in PHASE " + phase, x.settle(0) ? 1 : 0, phase == 4 ? 1 : 0);
            due("PHASE", x.state(0), phase == 4 ? 5 : phase);
        }
        OpenDeal x = betting(10, 10);
        no("before any acts", x.settle(0x10));
        x.bet(0, 2, 3);
        no("before all have acted", x.settle(0x10));
        chips(x, 7, 10);
        due("PHASE", x.state(0), 4);
        x.bet(1, 1, 0);
        yes("behind it", x.settle(0x10));
        chips(x, 7, 13);
        no("again", x.settle(0x01));
        chips(x, 7, 13);
    }

    private static void showIsRefused() {
        for (int phase = 0; phase <= 6; phase++) {
            due("in PHASE " + phase, inPhase(phase).show(1) ? 1 : 0, phase == 5 ? 1 : 0);
            no("it has, or another PHASE", inPhase(phase).show(0));
        }
        OpenDeal x = playing(10, 10);
        x.settle(0);
        for (int k : NOT_OF_TWO) {
            no("player " + k, x.show(k));
        }
        yes("the last", x.show(1));
        no("it has", x.show(1));
        due("PHASE", x.state(0), 5);
        yes("the first", x.show(0));
        no("in PHASE 6", x.show(0));
        no("in PHASE 6", x.show(1));
    }

    // ---- promises 19 and 20

    private static void stateNext() {
        OpenDeal x = seated(P, 10, 10);
        due("in PHASE 0", x.state(2), NONE);
        x.deal();
        due("in PHASE 1", x.state(2), NONE);
        sealOne(x, 0);
        due("in PHASE 1", x.state(2), NONE);
        sealOne(x, 1);
        for (int turn = 0; turn < 4; turn++) {
            due("in PHASE 2 or 3", x.state(2), turn % 2);
            x.turn(turn % 2);
        }
        due("in PHASE 4, no ROUND", x.state(2), NONE);
        x.round();
        due("a ROUND", x.state(2), 0);
        x.bet(0, 1, 0);
        due("a ROUND", x.state(2), 1);
        x.bet(1, 1, 0);
        due("behind the ROUND", x.state(2), NONE);
        x.settle(0);
        due("in PHASE 5", x.state(2), NONE);
        showAll(x);
        due("in PHASE 6", x.state(2), NONE);
    }

    private static void stateChips() {
        OpenDeal x = betting(10, 10);
        inAndMost(x, 0, 0);
        x.bet(0, 2, 1);
        inAndMost(x, 1, 1);
        x.bet(1, 2, 2);
        inAndMost(x, 4, 3);
        x.bet(0, 1, 0);
        inAndMost(x, 6, 0);
        x.round();
        inAndMost(x, 6, 0);
        x.bet(0, 2, 1);
        inAndMost(x, 7, 1);
        x.bet(1, 0, 0);
        inAndMost(x, 7, 0);
        x.settle(0);
        inAndMost(x, 0, 0);
        chips(x, 13, 7);
        OpenDeal all = betting(100000, 100000, 100000, 100000);
        all.bet(0, 2, 100000);
        all.bet(1, 1, 0);
        all.bet(2, 1, 0);
        inAndMost(all, 300000, 100000);
        all.bet(3, 1, 0);
        inAndMost(all, 400000, 0);
        all.settle(0x1000);
        chips(all, 0, 0, 0, 400000);
    }

    private static void inAndMost(OpenDeal x, int in, int most) {
        due("in all", x.state(3), in);
        due("the most", x.state(4), most);
    }

    private static void stateOther() {
        for (int phase = 0; phase <= 6; phase++) {
            OpenDeal x = inPhase(phase);
            for (int what : new int[] {Integer.MIN_VALUE, -1, 5, 6, Integer.MAX_VALUE}) {
                due("state(" + what + ")", x.state(what), NONE);
            }
            due("state(0)", x.state(0), phase);
            due("state(1)", x.state(1), 3);
        }
    }

    private static void playerPutIn() {
        OpenDeal x = playing(10, 10);
        putIn(x, 0, 10, 0, 0);
        x.round();
        x.bet(0, 2, 4);
        putIn(x, 0, 6, 4, 4);
        putIn(x, 1, 10, 0, 0);
        x.bet(1, 1, 0);
        putIn(x, 0, 6, 4, 0);
        putIn(x, 1, 6, 4, 0);
        x.round();
        putIn(x, 0, 6, 4, 0);
        x.bet(0, 2, 6);
        putIn(x, 0, 0, 10, 6);
        x.bet(1, 0, 0);
        putIn(x, 0, 0, 10, 0);
        putIn(x, 1, 6, 4, 0);
        x.settle(0);
        putIn(x, 0, 14, 0, 0);
        putIn(x, 1, 6, 0, 0);
        showAll(x);
        putIn(x, 0, 14, 0, 0);
        x.deal();
        putIn(x, 0, 14, 0, 0);
    }

    private static void putIn(OpenDeal x, int k, int chips, int hand, int round) {
        due("chips of " + k, x.player(k, 0), chips);
        due("put in in this hand by " + k, x.player(k, 1), hand);
        due("put in in this ROUND by " + k, x.player(k, 2), round);
    }

    private static void playerIn() {
        OpenDeal x = seated(P, 10, 10);
        isIn(x, 0, 0);
        x.deal();
        for (int phase = 1; phase <= 3; phase++) {
            due("PHASE", x.state(0), phase);
            isIn(x, 0, 0);
            if (phase == 1) {
                sealAll(x);
            } else {
                turnAll(x);
            }
        }
        due("PHASE", x.state(0), 4);
        isIn(x, 1, 1);
        x.round();
        x.bet(0, 2, 10);
        isIn(x, 1, 1);
        x.bet(1, 0, 0);
        isIn(x, 1, 0);
        x.settle(0);
        isIn(x, 1, 0);
        showAll(x);
        isIn(x, 1, 0);
        x.deal();
        isIn(x, 0, 0);
        toPlay(x);
        isIn(x, 1, 1);
    }

    private static void isIn(OpenDeal x, int first, int second) {
        due("player 0 in PHASE " + x.state(0), x.player(0, 3), first);
        due("player 1 in PHASE " + x.state(0), x.player(1, 3), second);
    }

    private static void playerGave() {
        OpenDeal x = playing(10, 10);
        for (int place = 0; place < 52; place++) {
            due("before place " + place, x.player(0, 4), place);
            x.assign(place, place == 51 ? 1 : NONE);
            x.give(0, place);
            x.give(0, place);
        }
        due("all", x.player(0, 4), 52);
        due("of the other", x.player(1, 4), 0);
        x.give(1, 51);
        due("dealt to itself", x.player(1, 4), 0);
        x.give(1, 50);
        due("one of the other", x.player(1, 4), 1);
        finish(x);
        due("in PHASE 6", x.player(0, 4), 52);
        x.deal();
        due("in the next hand", x.player(0, 4), 0);
    }

    private static void playerOther() {
        for (int players = 0; players <= 4; players++) {
            OpenDeal x = seated(P);
            for (int k = 0; k < players; k++) {
                x.seat(7);
            }
            for (int k = 0; k < 4; k++) {
                for (int what = 0; what <= 4; what++) {
                    due("player(" + k + ", " + what + ")", x.player(k, what), k >= players ? NONE : what == 0 ? 7 : 0);
                }
                for (int what : new int[] {Integer.MIN_VALUE, -1, 5, Integer.MAX_VALUE}) {
                    due("player(" + k + ", " + what + ")", x.player(k, what), NONE);
                }
            }
            for (int k : NOT_OF_FOUR) {
                due("player(" + k + ", 0)", x.player(k, 0), NONE);
            }
        }
    }

    // ---- the last of 512 calls

    private static void lastCalls() {
        OpenDeal x = new OpenDeal();
        x.prime(P);
        x.seat(10);
        x.seat(10);
        int calls = 3;
        while (calls + 15 <= 512) {
            x.deal();
            x.seal(0, exponent(0), orderKey(0), locksKey(0));
            x.seal(1, exponent(1), orderKey(1), locksKey(1));
            x.turn(0);
            x.turn(1);
            x.turn(0);
            x.turn(1);
            x.assign(51, NONE);
            x.give(0, 51);
            x.give(1, 51);
            due("a card, behind " + calls + " calls", x.open(0, 51), cardAt(51, 2));
            yes("settle", x.settle(0));
            yes("show", x.show(0));
            yes("show", x.show(1));
            calls += 14;
            due("AUDIT, behind " + calls + " calls", x.audit(), 0);
            calls++;
        }
        while (calls < 512) {
            due("PHASE, behind " + calls + " calls", x.state(0), 6);
            calls++;
        }
    }
}
