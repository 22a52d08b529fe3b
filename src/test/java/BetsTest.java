/** The sentences of BETS and SETTLE that name a boundary case: the answer at the case and just beside it. */
public final class BetsTest extends Checks {
    private static final int FOLD = 0;
    private static final int CALL = 1;
    private static final int RAISE = 2;

    public static void main(String[] args) {
        about("BETS, in PHASE 4");
        betsInPhaseFour();
        about("a ROUND begins with nothing put in by any in it");
        beginsWithNothing();
        about("the first to act is the first player in order that is IN (not folded) and has chips");
        firstToAct();
        about("FOLD");
        folds();
        about("CALL: as much as is missing to the most that anyone put in in this ROUND, or all it has, if that is less (also nothing)");
        callsWhatIsMissing();
        callsNothing();
        callsBehindOthers();
        about("RAISE by n (1 or more): CALL and n more, refused if it has not so many chips.");
        raisesByOneOrMore();
        raisesByAllItHas();
        raiseNeedsMoreThanACall();
        raisesByTooMuchOfAll();
        about("Who acts next is the next one in order, around, that is IN, has chips, and has not acted since the latest RAISE (or the beginning of the ROUND).");
        nextInOrder();
        nextIsIn();
        nextHasChips();
        nextHasNotActed();
        about("The ROUND ends when all that are IN and have chips have acted since the latest RAISE (or the beginning of the ROUND), the one that raised counting as having acted, and have put in as much as the most");
        endsWhenAllActed();
        endsBeforeTheOneThatRaised();
        endsWithoutThoseThatHaveNoChips();
        about("or when just one is IN.");
        endsWhenOneIsIn();
        about("It ends at once, when it begins, if fewer than two that are IN have chips.");
        endsAtOnce();
        about("chips put in in all ROUNDS are paid out by RANKS (a number 0 .. 15 for each player, the greater one wins; folded ones win nothing)");
        allRoundsArePaid();
        greaterRankWins();
        foldedWinNothing();
        about("the least amount above 0 that any player has in yet is taken from each who has some in");
        layers();
        nothingInIsNoLayer();
        about("those with the greatest RANK share it, each the same whole number of chips, what is left over going to the first of them by number");
        shares();
        leftOverOfEachLayer();
        about("if none of them is IN, it goes to those who put it in.");
        goesBack();
        about("Then PHASE 5: secrets are SHOWN. When all are: PHASE 6.");
        settledIsPhaseFive();
        end();
    }

    private static void act(OpenDeal x, int player, int kind, int n) {
        yes("bet(" + player + ", " + kind + ", " + n + ")", x.bet(player, kind, n));
    }

    private static void next(OpenDeal x, int want) {
        due("who acts next", x.state(2), want);
    }

    private static void over(OpenDeal x) {
        next(x, NONE);
        for (int k = 0; k < x.state(1); k++) {
            no("behind the ROUND, player " + k, x.bet(k, CALL, 0));
            due("put in in no ROUND", x.player(k, 2), 0);
        }
        due("the most in no ROUND", x.state(4), 0);
    }

    // ---- BETS

    private static void betsInPhaseFour() {
        for (int phase = 0; phase <= 6; phase++) {
            OpenDeal x = idleInPhase(phase);
            due("round in PHASE " + phase, x.round() ? 1 : 0, phase == 4 ? 1 : 0);
            int first = x.state(2);
            due("bet in PHASE " + phase, x.bet(first, CALL, 0) ? 1 : 0, phase == 4 ? 1 : 0);
        }
    }

    private static void beginsWithNothing() {
        OpenDeal x = betting(20, 20);
        act(x, 0, RAISE, 3);
        act(x, 1, CALL, 0);
        yes("round", x.round());
        due("the most", x.state(4), 0);
        for (int k = 0; k < 2; k++) {
            due("in this ROUND", x.player(k, 2), 0);
            due("in this hand", x.player(k, 1), 3);
        }
        act(x, 0, CALL, 0);
        chips(x, 17, 17);
        act(x, 1, RAISE, 1);
        due("the most", x.state(4), 1);
        act(x, 0, CALL, 0);
        chips(x, 16, 16);
    }

    private static void firstToAct() {
        OpenDeal x = betting(10, 20, 20, 20);
        next(x, 0);
        act(x, 0, RAISE, 10);
        act(x, 1, CALL, 0);
        act(x, 2, CALL, 0);
        act(x, 3, CALL, 0);
        x.round();
        next(x, 1);
        act(x, 1, FOLD, 0);
        act(x, 2, CALL, 0);
        act(x, 3, CALL, 0);
        x.round();
        next(x, 2);
        OpenDeal y = betting(9, 9, 9);
        act(y, 0, CALL, 0);
        act(y, 1, CALL, 0);
        act(y, 2, RAISE, 1);
        act(y, 0, CALL, 0);
        act(y, 1, CALL, 0);
        y.round();
        next(y, 0);
    }

    private static void folds() {
        OpenDeal x = betting(10, 10, 10);
        act(x, 0, RAISE, 4);
        due("IN", x.player(1, 3), 1);
        act(x, 1, FOLD, 77);
        due("not IN", x.player(1, 3), 0);
        chips(x, 6, 10, 10);
        act(x, 2, RAISE, 1);
        act(x, 0, FOLD, 0);
        due("what it put in stays in", x.state(3), 9);
        chips(x, 6, 10, 5);
    }

    private static void callsWhatIsMissing() {
        for (int has = 4; has <= 6; has++) {
            OpenDeal x = betting(100, has);
            act(x, 0, RAISE, 5);
            act(x, 1, CALL, 0);
            int pays = has < 5 ? has : 5;
            due("chips of one that had " + has, x.player(1, 0), has - pays);
            due("in, of one that had " + has, x.player(1, 1), pays);
        }
        OpenDeal x = betting(100, 100);
        act(x, 0, RAISE, 5);
        act(x, 1, RAISE, 7);
        act(x, 0, CALL, 0);
        chips(x, 88, 88);
    }

    private static void callsNothing() {
        OpenDeal x = betting(1, 1);
        act(x, 0, CALL, 0);
        chips(x, 1, 1);
        next(x, 1);
        act(x, 1, CALL, Integer.MAX_VALUE);
        chips(x, 1, 1);
        over(x);
        due("nothing is in", x.state(3), 0);
    }

    private static void callsBehindOthers() {
        OpenDeal x = betting(30, 30, 30);
        act(x, 0, RAISE, 5);
        act(x, 1, RAISE, 5);
        act(x, 2, RAISE, 5);
        act(x, 0, CALL, 0);
        act(x, 1, FOLD, 0);
        over(x);
        chips(x, 15, 20, 15);
        OpenDeal y = betting(4, 30, 30);
        act(y, 0, RAISE, 1);
        act(y, 1, RAISE, 9);
        act(y, 2, CALL, 0);
        act(y, 0, CALL, 0);
        over(y);
        chips(y, 0, 20, 20);
    }

    private static void raisesByOneOrMore() {
        OpenDeal x = betting(10, 10);
        for (int n : new int[] {0, -1, -10, Integer.MIN_VALUE}) {
            no("by " + n, x.bet(0, RAISE, n));
        }
        next(x, 0);
        act(x, 0, RAISE, 1);
        due("the most", x.state(4), 1);
        no("by 0", x.bet(1, RAISE, 0));
        no("by -1, which would be a CALL of nothing", x.bet(1, RAISE, -1));
        act(x, 1, RAISE, 1);
        due("the most", x.state(4), 2);
        chips(x, 9, 8);
    }

    private static void raisesByAllItHas() {
        OpenDeal x = betting(10, 15);
        no("by 11 of 10", x.bet(0, RAISE, 11));
        act(x, 0, RAISE, 10);
        chips(x, 0, 15);
        no("10 and 6 of 15", x.bet(1, RAISE, 6));
        chips(x, 0, 15);
        next(x, 1);
        act(x, 1, RAISE, 5);
        chips(x, 0, 0);
        over(x);
        OpenDeal y = betting(10, 15);
        act(y, 0, RAISE, 9);
        act(y, 1, RAISE, 5);
        chips(y, 1, 1);
    }

    private static void raiseNeedsMoreThanACall() {
        for (int has = 4; has <= 6; has++) {
            OpenDeal x = betting(100, has);
            act(x, 0, RAISE, 5);
            due("RAISE by 1 of one that has " + has, x.bet(1, RAISE, 1) ? 1 : 0, has == 6 ? 1 : 0);
            due("the most", x.state(4), has == 6 ? 6 : 5);
            due("chips", x.player(1, 0), has == 6 ? 0 : has);
        }
    }

    private static void raisesByTooMuchOfAll() {
        OpenDeal x = betting(100000, 100000);
        no("by the greatest number", x.bet(0, RAISE, Integer.MAX_VALUE));
        no("by 100001", x.bet(0, RAISE, 100001));
        act(x, 0, RAISE, 50000);
        no("50000 and the greatest number", x.bet(1, RAISE, Integer.MAX_VALUE));
        no("50000 and a number that wraps around to 100000", x.bet(1, RAISE, Integer.MAX_VALUE - 49999));
        no("50000 and 50001", x.bet(1, RAISE, 50001));
        act(x, 1, RAISE, 50000);
        chips(x, 50000, 0);
    }

    private static void nextInOrder() {
        OpenDeal x = betting(10, 10, 10, 10);
        for (int k = 0; k < 4; k++) {
            next(x, k);
            for (int other = NONE; other <= 4; other++) {
                if (other != k) {
                    no(other + " acts in the turn of " + k, x.bet(other, CALL, 0));
                }
            }
            act(x, k, k == 3 ? RAISE : CALL, 1);
        }
        next(x, 0);
        act(x, 0, CALL, 0);
        next(x, 1);
    }

    private static void nextIsIn() {
        OpenDeal x = betting(10, 10, 10, 10);
        act(x, 0, FOLD, 0);
        act(x, 1, CALL, 0);
        act(x, 2, FOLD, 0);
        next(x, 3);
        act(x, 3, RAISE, 1);
        next(x, 1);
        act(x, 1, RAISE, 1);
        next(x, 3);
    }

    private static void nextHasChips() {
        OpenDeal x = betting(5, 10, 6, 20);
        act(x, 0, RAISE, 5);
        act(x, 1, RAISE, 1);
        act(x, 2, CALL, 0);
        next(x, 3);
        act(x, 3, RAISE, 1);
        next(x, 1);
        act(x, 1, RAISE, 1);
        next(x, 3);
        OpenDeal y = betting(6, 5, 20);
        act(y, 0, RAISE, 5);
        act(y, 1, CALL, 0);
        act(y, 2, RAISE, 1);
        next(y, 0);
        act(y, 0, CALL, 0);
        over(y);
    }

    private static void nextHasNotActed() {
        OpenDeal x = betting(10, 10, 10, 10);
        act(x, 0, CALL, 0);
        act(x, 1, RAISE, 1);
        act(x, 2, CALL, 0);
        act(x, 3, CALL, 0);
        next(x, 0);
        act(x, 0, RAISE, 1);
        for (int k = 1; k <= 3; k++) {
            next(x, k);
            act(x, k, CALL, 0);
        }
        over(x);
    }

    private static void endsWhenAllActed() {
        for (int players = 2; players <= 4; players++) {
            OpenDeal x = begunBy(players);
            toPlay(x);
            x.round();
            for (int k = 0; k < players; k++) {
                next(x, k);
                no("under way", x.round());
                act(x, k, CALL, 0);
            }
            over(x);
            yes("the next ROUND", x.round());
        }
    }

    private static void endsBeforeTheOneThatRaised() {
        for (int raiser = 0; raiser < 4; raiser++) {
            OpenDeal x = betting(10, 10, 10, 10);
            for (int k = 0; k < raiser; k++) {
                act(x, k, CALL, 0);
            }
            act(x, raiser, RAISE, 2);
            for (int i = 1; i <= 3; i++) {
                next(x, (raiser + i) % 4);
                act(x, (raiser + i) % 4, CALL, 0);
            }
            over(x);
            due("put in", x.state(3), 8);
        }
    }

    private static void endsWithoutThoseThatHaveNoChips() {
        OpenDeal x = betting(5, 5, 20);
        act(x, 0, RAISE, 5);
        act(x, 1, CALL, 0);
        next(x, 2);
        act(x, 2, CALL, 0);
        over(x);
        OpenDeal y = betting(20, 5);
        act(y, 0, CALL, 0);
        act(y, 1, RAISE, 5);
        next(y, 0);
        act(y, 0, RAISE, 15);
        over(y);
        chips(y, 0, 0);
    }

    private static void endsWhenOneIsIn() {
        for (int players = 2; players <= 4; players++) {
            OpenDeal x = begunBy(players);
            toPlay(x);
            x.round();
            for (int k = 0; k < players - 1; k++) {
                next(x, k);
                act(x, k, FOLD, 0);
            }
            over(x);
            due("the last one is IN", x.player(players - 1, 3), 1);
        }
        OpenDeal y = betting(5, 20, 20);
        act(y, 0, RAISE, 5);
        act(y, 1, FOLD, 0);
        next(y, 2);
        act(y, 2, FOLD, 0);
        over(y);
        OpenDeal z = betting(20, 20, 20);
        act(z, 0, RAISE, 5);
        act(z, 1, CALL, 0);
        act(z, 2, RAISE, 5);
        act(z, 0, FOLD, 0);
        next(z, 1);
        act(z, 1, FOLD, 0);
        over(z);
    }

    private static void endsAtOnce() {
        endsAtOnceBehind(betting(5, 5, 5), 4, false);
        endsAtOnceBehind(betting(5, 6, 6), 5, false);
        endsAtOnceBehind(betting(5, 5, 6), 5, true);
        endsAtOnceBehind(betting(5, 5, 5), 5, true);
        OpenDeal x = betting(20, 20, 5);
        act(x, 0, RAISE, 5);
        act(x, 1, CALL, 0);
        act(x, 2, CALL, 0);
        x.round();
        next(x, 0);
        act(x, 0, FOLD, 0);
        next(x, 1);
        act(x, 1, CALL, 0);
        yes("0 has chips, but is not IN", x.round());
        over(x);
        yes("it is not under way", x.round());
        yes("nor behind that", x.settle(0));
    }

    /** All three put in so many; then a ROUND begins. */
    private static void endsAtOnceBehind(OpenDeal x, int n, boolean want) {
        act(x, 0, RAISE, n);
        act(x, 1, CALL, 0);
        act(x, 2, CALL, 0);
        over(x);
        yes("round", x.round());
        due("ends at once", x.state(2) == NONE ? 1 : 0, want ? 1 : 0);
    }

    // ---- SETTLE

    private static void allRoundsArePaid() {
        OpenDeal x = betting(20, 20);
        act(x, 0, RAISE, 3);
        act(x, 1, CALL, 0);
        x.round();
        act(x, 0, CALL, 0);
        act(x, 1, RAISE, 4);
        act(x, 0, CALL, 0);
        due("in all", x.state(3), 14);
        yes("settle", x.settle(0x10));
        chips(x, 13, 27);
        due("nothing is in", x.state(3), 0);
        for (int k = 0; k < 2; k++) {
            due("in this hand", x.player(k, 1), 0);
        }
    }

    private static void greaterRankWins() {
        int[][] ranks = {{0, 1}, {1, 0}, {14, 15}, {15, 14}, {7, 8}, {8, 7}, {0, 15}, {15, 0}};
        for (int[] pair : ranks) {
            for (int first = 0; first < 3; first++) {
                for (int second = first + 1; second < 4; second++) {
                    greaterRankOfTwo(first, second, pair[0], pair[1]);
                }
            }
        }
    }

    /** The two others fold, with ranks that would win. */
    private static void greaterRankOfTwo(int first, int second, int rank, int otherRank) {
        OpenDeal x = betting(10, 10, 10, 10);
        int ranks = 0;
        for (int k = 0; k < 4; k++) {
            boolean in = k == first || k == second;
            act(x, k, k == first ? RAISE : in ? CALL : FOLD, 2);
            ranks |= (k == first ? rank : in ? otherRank : 15) << 4 * k;
        }
        x.settle(ranks);
        for (int k = 0; k < 4; k++) {
            boolean in = k == first || k == second;
            boolean wins = in && (k == first) == (rank > otherRank);
            due("chips of " + k, x.player(k, 0), !in ? 10 : wins ? 12 : 8);
        }
    }

    private static void foldedWinNothing() {
        OpenDeal x = betting(10, 10, 10);
        act(x, 0, RAISE, 2);
        act(x, 1, CALL, 0);
        act(x, 2, RAISE, 1);
        act(x, 0, FOLD, 0);
        act(x, 1, CALL, 0);
        x.settle(0x10F);
        chips(x, 8, 7, 15);
        x = betting(10, 10);
        act(x, 0, RAISE, 2);
        act(x, 1, FOLD, 0);
        x.settle(0xF0);
        chips(x, 10, 10);
    }

    private static void layers() {
        // Amounts 1, 2, 3, 5: layers of 1 from four, 1 from three, 1 from two, 2 from one.
        OpenDeal x = layered();
        x.settle(0x1234);
        chips(x, 4, 3, 2, 97);
        x = layered();
        x.settle(0x4321);
        chips(x, 0, 0, 0, 95 + 4 + 3 + 2 + 2);
        x = layered();
        x.settle(0x1212);
        chips(x, 2, 0, 2 + 3 + 2, 97);
        x = layered();
        x.settle(0x0F00);
        chips(x, 0, 0, 4 + 3 + 2, 97);
    }

    private static OpenDeal layered() {
        OpenDeal x = betting(1, 2, 3, 100);
        act(x, 0, RAISE, 1);
        act(x, 1, RAISE, 1);
        act(x, 2, RAISE, 1);
        act(x, 3, RAISE, 2);
        over(x);
        return x;
    }

    private static void nothingInIsNoLayer() {
        OpenDeal x = betting(10, 10, 10);
        act(x, 0, FOLD, 0);
        act(x, 1, RAISE, 5);
        act(x, 2, CALL, 0);
        x.settle(0x00F);
        chips(x, 10, 10, 10);
        OpenDeal y = betting(10, 10, 10);
        act(y, 0, CALL, 0);
        act(y, 1, CALL, 0);
        act(y, 2, CALL, 0);
        yes("nothing is in", y.settle(0x321));
        chips(y, 10, 10, 10);
        OpenDeal z = playing(10, 10);
        yes("no ROUND was", z.settle(0x21));
        chips(z, 10, 10);
    }

    private static void shares() {
        for (int each = 1; each <= 5; each++) {
            for (int winners = 1; winners < 16; winners++) {
                sharesAmong(each, winners);
            }
        }
    }

    /** Four put in the same; those whose bit is set have the greatest RANK. */
    private static void sharesAmong(int each, int winners) {
        OpenDeal x = betting(10, 10, 10, 10);
        act(x, 0, RAISE, each);
        int ranks = 0;
        for (int k = 0; k < 4; k++) {
            if (k > 0) {
                act(x, k, CALL, 0);
            }
            ranks |= ((winners >> k & 1) == 1 ? 9 : 8) << 4 * k;
        }
        x.settle(ranks);
        int count = Integer.bitCount(winners);
        int first = Integer.numberOfTrailingZeros(winners);
        for (int k = 0; k < 4; k++) {
            int won = (winners >> k & 1) == 1 ? 4 * each / count : 0;
            won += k == first ? 4 * each % count : 0;
            due("of " + each + " each, winners " + winners + ", chips of " + k, x.player(k, 0), 10 - each + won);
        }
    }

    /** 1 of four and 1 of three: what is left over of each goes to the first of those who share that one. */
    private static void leftOverOfEachLayer() {
        OpenDeal x = fourAndThree();
        x.settle(0x5500);
        chips(x, 0, 8, 8 + 2 + 2, 8 + 2 + 1);
        x = fourAndThree();
        x.settle(0x0555);
        chips(x, 2, 8 + 1 + 2, 8 + 1 + 1, 8);
        x = fourAndThree();
        x.settle(0x5550);
        chips(x, 0, 8 + 2 + 1, 8 + 1 + 1, 8 + 1 + 1);
    }

    private static OpenDeal fourAndThree() {
        OpenDeal x = betting(1, 10, 10, 10);
        act(x, 0, RAISE, 1);
        act(x, 1, RAISE, 1);
        act(x, 2, CALL, 0);
        act(x, 3, CALL, 0);
        return x;
    }

    private static void goesBack() {
        // 0 has 10 in and no more; 1 and 2 have 20 in.
        OpenDeal none = withTwoAbove();
        act(none, 1, FOLD, 0);
        act(none, 2, FOLD, 0);
        none.settle(0xFF0);
        chips(none, 30, 20 + 10, 20 + 10);
        OpenDeal one = withTwoAbove();
        act(one, 1, FOLD, 0);
        act(one, 2, CALL, 0);
        one.settle(0x00F);
        chips(one, 30, 20, 20 + 20);
        OpenDeal both = withTwoAbove();
        act(both, 1, CALL, 0);
        act(both, 2, CALL, 0);
        both.settle(0x10F);
        chips(both, 30, 20, 20 + 20);
        // The two above have not the same in: 12 and 20.
        OpenDeal uneven = betting(10, 40, 40);
        act(uneven, 0, RAISE, 10);
        act(uneven, 1, RAISE, 2);
        act(uneven, 2, RAISE, 8);
        act(uneven, 1, FOLD, 0);
        over(uneven);
        uneven.settle(0x001);
        chips(uneven, 30, 28, 20 + 2 + 10);
        // 0 has 10 in, 1 and 2 have 11 in, and fold: the last chip of each goes back.
        OpenDeal byOne = betting(10, 40, 40);
        act(byOne, 0, RAISE, 10);
        act(byOne, 1, RAISE, 1);
        act(byOne, 2, CALL, 0);
        byOne.round();
        act(byOne, 1, FOLD, 0);
        act(byOne, 2, FOLD, 0);
        byOne.settle(0);
        chips(byOne, 30, 30, 30);
    }

    private static OpenDeal withTwoAbove() {
        OpenDeal x = betting(10, 40, 40);
        act(x, 0, RAISE, 10);
        act(x, 1, RAISE, 10);
        act(x, 2, CALL, 0);
        x.round();
        next(x, 1);
        return x;
    }

    private static void settledIsPhaseFive() {
        OpenDeal x = playing(10, 10);
        due("PHASE before", x.state(0), 4);
        no("show before", x.show(0));
        x.settle(0);
        due("PHASE", x.state(0), 5);
        yes("show", x.show(0));
        due("one is shown", x.state(0), 5);
        yes("show", x.show(1));
        due("all are shown", x.state(0), 6);
    }
}
