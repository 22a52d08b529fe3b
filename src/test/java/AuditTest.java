/** The sentences of THE AUDIT and of CHEATING that name a boundary case: the answer at it and just beside it. */
public final class AuditTest extends Checks {
    private static final int HALF = (P - 1) / 2;
    /**
     * A P with P - 2 among the powers of the cards' numbers. With 1 more that is P - 1, and stays so
     * to the power of any EXPONENT, as all are odd: so the next one can be told to lay 1 more of it.
     */
    private static final int Q = 65579;
    /** For each kind of cheating the number that the AUDIT tells of it. */
    private static final int[] TOLD = {2, 3, 4, 1, 1};

    public static void main(String[] args) {
        about("its SEAL is not that of its secrets");
        sealDoesNotFit();
        about("what it laid when it LOCKED the deck is not what its secrets make of what lay there before; for each in order 3: likewise of RELOCKED");
        laidDoesNotFit();
        about("place by place, player by player 4: a LOCK that it gave is not that of its KEY.");
        givenDoesNotFit();
        placeByPlace();
        about("The first such: 16 * the player + that number; 0 if all fits. (So any 1 is told before any 2, and so on.)");
        allFits();
        firstOfTwo();
        about("IllegalStateException: the PHASE is not 6.");
        auditInPhaseSix();
        about("what it lays at place gets 1 more (1 instead of P - 1)");
        oneMoreAtOnePlace();
        oneInsteadInPhaseTwo();
        oneInsteadInPhaseThree();
        about("the LOCK that it gives of place is the least EXPONENT above it, or 3, if there is none");
        wrongLocks();
        about("so is the EXPONENT that it shows");
        wrongExponents();
        about("the KEY of ORDER it shows gets 1 more");
        wrongOrders();
        about("A player is told to cheat in this hand (PHASE 1 to 5), from now on");
        phasesOfCheating();
        fromNowOn();
        inThisHand();
        about("false if there is none such, another kind or place, or the PHASE is another one.");
        cheatIsRefused();
        end();
    }

    /** The verdict of a hand of four with these cheats (player, kind, place), all LOCKS of 0, 5 and 51 given. */
    private static int audited(int... cheats) {
        OpenDeal x = begunBy(4);
        for (int i = 0; i < cheats.length; i += 3) {
            yes("cheat", x.cheat(cheats[i], cheats[i + 1], cheats[i + 2]));
        }
        toPlay(x);
        for (int place : new int[] {0, 5, 51}) {
            x.assign(place, NONE);
            giveAll(x, place);
        }
        finish(x);
        return x.audit();
    }

    // ---- THE AUDIT

    private static void sealDoesNotFit() {
        for (int k = 0; k < 4; k++) {
            due("wrong EXPONENT", audited(k, 3, 0), 16 * k + 1);
            due("wrong KEY", audited(k, 4, 0), 16 * k + 1);
            due("both", audited(k, 3, 0, k, 4, 0), 16 * k + 1);
            for (int other = k + 1; other < 4; other++) {
                due("the first", audited(other, 3, 0, k, 4, 0), 16 * k + 1);
            }
        }
    }

    /** Those behind one that cheats reckon with what lies there, and fit. */
    private static void laidDoesNotFit() {
        for (int kind = 0; kind <= 1; kind++) {
            for (int k = 0; k < 4; k++) {
                for (int place : new int[] {0, 1, 25, 50, 51}) {
                    due("place " + place, audited(k, kind, place), 16 * k + 2 + kind);
                }
                for (int other = k + 1; other < 4; other++) {
                    due("the first", audited(other, kind, 0, k, kind, 51), 16 * k + 2 + kind);
                }
            }
        }
    }

    private static void givenDoesNotFit() {
        for (int k = 0; k < 4; k++) {
            for (int place : new int[] {0, 5, 51}) {
                due("given, place " + place, audited(k, 2, place), 16 * k + 4);
            }
            for (int place : new int[] {1, 4, 6, 50}) {
                due("not given, place " + place, audited(k, 2, place), 0);
            }
        }
        OpenDeal x = begunBy(2);
        x.cheat(0, 2, 5);
        toPlay(x);
        x.assign(5, 0);
        no("not given, as it is dealt to itself", x.give(0, 5));
        x.give(1, 5);
        finish(x);
        due("a LOCK that is dealt to itself", x.audit(), 0);
    }

    private static void placeByPlace() {
        due("place 0 of 3 before place 5 of 0", audited(0, 2, 5, 3, 2, 0), 16 * 3 + 4);
        due("place 5 of 3 before place 51 of 0", audited(0, 2, 51, 3, 2, 5), 16 * 3 + 4);
        due("in a place the first player", audited(3, 2, 51, 2, 2, 51, 1, 2, 51), 16 * 1 + 4);
        due("place 51 of 3", audited(0, 2, 50, 3, 2, 51), 16 * 3 + 4);
    }

    private static void allFits() {
        due("no cheat", audited(), 0);
        for (int players = 2; players <= 4; players++) {
            OpenDeal x = begunBy(players);
            toPlay(x);
            finish(x);
            due("nothing was given", x.audit(), 0);
            due("asked again", x.audit(), 0);
        }
    }

    /** Every two cheats of any two players: the lesser number is told, and of equal ones the first player. */
    private static void firstOfTwo() {
        for (int a = 0; a < 20; a++) {
            for (int b = 0; b < 20; b++) {
                int first = TOLD[a % 5] * 4 + a / 5;
                int second = TOLD[b % 5] * 4 + b / 5;
                int least = Math.min(first, second);
                due("cheats " + a + " and " + b, audited(a / 5, a % 5, 5, b / 5, b % 5, 5), 16 * (least % 4) + least / 4);
            }
        }
    }

    private static void auditInPhaseSix() {
        for (int phase = 0; phase <= 6; phase++) {
            due("throws in PHASE " + phase, auditThrows(inPhase(phase)) ? 1 : 0, phase == 6 ? 0 : 1);
        }
        OpenDeal x = inPhase(6);
        due("player 1 showed a wrong KEY", x.audit(), 16 + 1);
        x.deal();
        yes("in PHASE 1 of the next hand", auditThrows(x));
    }

    // ---- CHEATING

    private static void oneMoreAtOnePlace() {
        for (int kind = 0; kind <= 1; kind++) {
            for (int place : new int[] {0, 1, 31, 32, 50, 51}) {
                OpenDeal honest = begunBy(2);
                OpenDeal x = begunBy(2);
                x.cheat(0, kind, place);
                sealAll(honest);
                sealAll(x);
                honest.turn(0);
                x.turn(0);
                laidAs(x, honest, kind == 0 ? place : NONE);
                if (kind == 1) {
                    x.turn(1);
                    honest.turn(1);
                    laidAs(x, honest, NONE);
                    x.turn(0);
                    honest.turn(0);
                    laidAs(x, honest, place);
                }
            }
        }
    }

    private static void laidAs(OpenDeal x, OpenDeal honest, int but) {
        for (int j = 0; j < 52; j++) {
            due("laid(" + j + ")", x.laid(j), honest.laid(j) + (j == but ? 1 : 0));
        }
    }

    private static void oneInsteadInPhaseTwo() {
        int place = 17;
        int there = indexOf(order(orderKey(1)), place);
        int e = 3;
        while (!isExponent(e, Q) || fastPow(numberOf(order(orderKey(0))[place]), e, Q) != Q - 2) {
            e++;
        }
        OpenDeal x = begun(Q, 10, 10);
        x.seal(0, e, orderKey(0), 1);
        x.seal(1, 5, orderKey(1), 2);
        x.cheat(0, 0, place);
        x.cheat(1, 0, there);
        x.turn(0);
        due("P - 2 gets 1 more", x.laid(place), Q - 1);
        x.turn(1);
        due("1 instead of P - 1", x.laid(there), 1);
        turnAll(x);
        due("1 stays 1", x.laid(there), 1);
        x.assign(there, NONE);
        giveAll(x, there);
        due("1 is the number of no card", x.open(0, there), 52);
        finish(x);
        due("player 0 is the first", x.audit(), 2);
    }

    private static void oneInsteadInPhaseThree() {
        long key = 0;
        int place = NONE;
        while (place == NONE) {
            key++;
            long[] locks = locks(key, Q);
            for (int j = 0; j < 52; j++) {
                // Place j as player 0 relocks it: the card's number to the power of 5 and of its LOCK.
                place = fastPow(numberOf(cardAt(j, 2)), 5 * locks[j] % (Q - 1), Q) == Q - 2 ? j : place;
            }
        }
        OpenDeal x = begun(Q, 10, 10);
        x.seal(0, 3, orderKey(0), key);
        x.seal(1, 5, orderKey(1), 2);
        x.cheat(0, 1, place);
        x.cheat(1, 1, place);
        turnAll(x);
        x.turn(0);
        due("P - 2 gets 1 more", x.laid(place), Q - 1);
        x.turn(1);
        due("1 instead of P - 1", x.laid(place), 1);
        finish(x);
        due("player 0 is the first", x.audit(), 3);
    }

    private static void wrongLocks() {
        wrongLockOpens(3, 5);
        wrongLockOpens(5, 7);
        wrongLockOpens(HALF - 4, HALF - 2);
        wrongLockOpens(HALF - 2, HALF + 2);
        wrongLockOpens(HALF + 2, HALF + 4);
        wrongLockOpens(P - 6, P - 4);
        wrongLockOpens(P - 4, P - 2);
        wrongLockOpens(P - 2, 3);
    }

    /**
     * A wrong LOCK of a wrong number still opens a card for some KEYS, and which one it is tells what
     * LOCK was given: such KEYS are looked for.
     */
    private static void wrongLockOpens(int lock, int given) {
        long number = numberOf(cardAt(0, 2));
        long second = 0;
        int card = 52;
        while (card == 52) {
            second++;
            long other = fastLocks(second)[0];
            long spoilt = fastPow(number, lock * other % (P - 1), P) + 1;
            card = cardOf(fastPow(spoilt, inverse(given, P) * inverse(other, P) % (P - 1), P));
        }
        OpenDeal x = begunBy(2);
        x.seal(0, 3, orderKey(0), keyOfDraw(lock - 3));
        x.seal(1, 5, orderKey(1), second);
        x.cheat(1, 1, 0);
        x.cheat(0, 2, 0);
        turnAll(x);
        turnAll(x);
        x.assign(0, NONE);
        giveAll(x, 0);
        due("opened by " + given + " instead of " + lock, x.open(0, 0), card);
    }

    private static void wrongExponents() {
        for (int e : new int[] {3, 5, HALF - 2, HALF + 2, P - 4, P - 2}) {
            for (int cheats = 0; cheats <= 1; cheats++) {
                OpenDeal x = begunBy(2);
                x.seal(0, 3, 1, 1);
                x.seal(1, e, 2, 2);
                turnAll(x);
                turnAll(x);
                x.settle(0);
                if (cheats == 1) {
                    x.cheat(1, 3, 51);
                }
                showAll(x);
                due("EXPONENT " + e, x.audit(), cheats == 1 ? 16 + 1 : 0);
            }
        }
    }

    private static void wrongOrders() {
        for (long key : new long[] {-1, 0, Long.MAX_VALUE, Long.MIN_VALUE, Long.MAX_VALUE - 1}) {
            for (int cheats = 0; cheats <= 1; cheats++) {
                OpenDeal x = begunBy(2);
                x.seal(0, 3, key, 1);
                x.seal(1, 3, 2, 2);
                turnAll(x);
                turnAll(x);
                x.settle(0);
                if (cheats == 1) {
                    x.cheat(0, 4, 0);
                }
                showAll(x);
                due("KEY " + key, x.audit(), cheats);
            }
        }
    }

    private static void phasesOfCheating() {
        for (int phase = 0; phase <= 6; phase++) {
            for (int kind = 0; kind <= 4; kind++) {
                due("kind " + kind + " in PHASE " + phase, inPhase(phase).cheat(0, kind, 0) ? 1 : 0,
                        phase >= 1 && phase <= 5 ? 1 : 0);
            }
        }
    }

    /** Player 1 is told just before, or just behind the deed. */
    private static void fromNowOn() {
        for (int kind = 0; kind <= 4; kind++) {
            due("kind " + kind + " in time", auditedWhenTold(kind, true), 16 + TOLD[kind]);
            due("kind " + kind + " too late", auditedWhenTold(kind, false), 0);
        }
    }

    private static int auditedWhenTold(int kind, boolean inTime) {
        OpenDeal x = begunBy(2);
        sealAll(x);
        for (int phase = 2; phase <= 3; phase++) {
            x.turn(0);
            tellIf(x, kind, kind == phase - 2 && inTime);
            x.turn(1);
            tellIf(x, kind, kind == phase - 2 && !inTime);
        }
        x.assign(9, 0);
        tellIf(x, kind, kind == 2 && inTime);
        x.give(1, 9);
        tellIf(x, kind, kind == 2 && !inTime);
        x.settle(0);
        tellIf(x, kind, kind >= 3 && inTime);
        x.show(1);
        tellIf(x, kind, kind >= 3 && !inTime);
        x.show(0);
        return x.audit();
    }

    private static void tellIf(OpenDeal x, int kind, boolean now) {
        if (now) {
            yes("cheat", x.cheat(1, kind, 9));
        }
    }

    private static void inThisHand() {
        for (int kind = 0; kind <= 4; kind++) {
            OpenDeal x = begunBy(2);
            x.cheat(1, kind, 9);
            toPlay(x);
            x.assign(9, NONE);
            giveAll(x, 9);
            finish(x);
            due("in this hand", x.audit(), 16 + TOLD[kind]);
            x.deal();
            toPlay(x);
            x.assign(9, NONE);
            giveAll(x, 9);
            due("the card is right", x.open(0, 9), cardAt(9, 2));
            finish(x);
            due("in the next one", x.audit(), 0);
        }
    }

    private static void cheatIsRefused() {
        for (int phase = 1; phase <= 5; phase++) {
            for (int k : new int[] {Integer.MIN_VALUE, -1, 3, 4, Integer.MAX_VALUE}) {
                no("player " + k, inPhase(phase).cheat(k, 0, 0));
            }
            yes("the last player", inPhase(phase).cheat(2, 0, 0));
            for (int kind : new int[] {Integer.MIN_VALUE, -1, 5, Integer.MAX_VALUE}) {
                no("kind " + kind, inPhase(phase).cheat(0, kind, 0));
            }
            for (int kind = 0; kind <= 4; kind++) {
                for (int place : OUTSIDE_PLACES) {
                    no("kind " + kind + ", place " + place, inPhase(phase).cheat(0, kind, place));
                }
                yes("the first place", inPhase(phase).cheat(0, kind, 0));
                yes("the last place", inPhase(phase).cheat(0, kind, 51));
            }
        }
    }
}
