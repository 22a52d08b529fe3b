import java.util.Arrays;

/**
 * A card table without a dealer: players lock the deck in turn with exponents modulo a prime,
 * open cards by giving away what locks a place, bet, show their secrets and are audited.
 */
public final class OpenDeal {
    public static final int NONE = -1;

    private static final int CARDS = 52;
    private static final int MOST_PLAYERS = 4;
    private static final int FEWEST_PLAYERS = 2;
    private static final int MOST_CHIPS = 100000;
    private static final int UNDEALT = -2;

    private static final int SEATING = 0;
    private static final int SEALING = 1;
    private static final int LOCKING = 2;
    private static final int RELOCKING = 3;
    private static final int PLAYING = 4;
    private static final int SHOWING = 5;
    private static final int SHOWN = 6;

    private static final int FOLD = 0;
    private static final int CALL = 1;
    private static final int RAISE = 2;

    private static final int WRONG_LOCKED = 0;
    private static final int WRONG_RELOCKED = 1;
    private static final int WRONG_GIVEN = 2;
    private static final int WRONG_EXPONENT = 3;
    private static final int WRONG_ORDER = 4;
    private static final int CHEATS = 5;

    /** P, or 0 as long as there is none. */
    private int p;
    private int phase;
    private int seats;
    private final Player[] players;
    /** How many turns were taken in this hand; row t of decks is the deck as turn t left it. */
    private int turns;
    private final int[][] decks;
    /** To whom each place is dealt: a player, NONE for the table, or UNDEALT. */
    private final int[] owners;
    /** Who acts next; a ROUND is under way as long as there is one. */
    private int actor;
    private int verdict;
    private final int[] orderRow;
    private final int[] deckRow;

    public OpenDeal() {
        players = new Player[MOST_PLAYERS];
        for (int k = 0; k < MOST_PLAYERS; k++) {
            players[k] = new Player();
        }
        decks = new int[1 + 2 * MOST_PLAYERS][CARDS];
        owners = new int[CARDS];
        orderRow = new int[CARDS];
        deckRow = new int[CARDS];
        actor = NONE;
    }

    public boolean prime(int p) {
        if (this.p != 0 || !Numbers.isTablePrime(p)) {
            return false;
        }
        this.p = p;
        for (int card = 0; card < CARDS; card++) {
            decks[0][card] = Numbers.ofCard(card, p);
        }
        return true;
    }

    public void clear() {
        p = 0;
        phase = SEATING;
        seats = 0;
        turns = 0;
        actor = NONE;
    }

    public int seat(int chips) {
        if (phase != SEATING || seats >= MOST_PLAYERS || chips < 1 || chips > MOST_CHIPS) {
            return NONE;
        }
        players[seats].chips = chips;
        players[seats].beginHand();
        seats++;
        return seats - 1;
    }

    public boolean deal() {
        if (p == 0 || seats < FEWEST_PLAYERS || (phase != SEATING && phase != SHOWN)) {
            return false;
        }
        if (countWithChips() < seats) {
            return false;
        }
        for (int k = 0; k < seats; k++) {
            players[k].beginHand();
        }
        Arrays.fill(owners, UNDEALT);
        turns = 0;
        phase = SEALING;
        return true;
    }

    public boolean seal(int player, int e, long order, long locks) {
        if (phase != SEALING || !isSeated(player) || !Numbers.isExponent(e, p)) {
            return false;
        }
        Player one = players[player];
        if (one.sealed) {
            return false;
        }
        one.secrets.keep(e, order, locks);
        one.mark = one.secrets.mark();
        one.sealed = true;
        Draws.fillLocks(locks, p, one.locks);
        if (allSealed()) {
            phase = LOCKING;
        }
        return true;
    }

    public long sealOf(int player) throws IndexOutOfBoundsException {
        if (!isSeated(player) || !players[player].sealed) {
            throw new IndexOutOfBoundsException("no such seal");
        }
        return players[player].mark;
    }

    public boolean turn(int player) {
        int next = nextToTurn();
        if (next == NONE || player != next) {
            return false;
        }
        Player one = players[player];
        int[] laid = decks[turns + 1];
        reckonTurn(turns, one.secrets, laid);
        spoil(laid, one, phase == LOCKING ? WRONG_LOCKED : WRONG_RELOCKED);
        turns++;
        if (turns == seats) {
            phase = RELOCKING;
        } else if (turns == 2 * seats) {
            phase = PLAYING;
        }
        return true;
    }

    public int laid(int place) throws IndexOutOfBoundsException {
        if (p == 0 || !isPlace(place)) {
            throw new IndexOutOfBoundsException("no such place, or no prime");
        }
        return decks[turns][place];
    }

    public boolean assign(int place, int player) {
        if (phase != PLAYING || !isPlace(place) || owners[place] != UNDEALT) {
            return false;
        }
        if (player != NONE && !isSeated(player)) {
            return false;
        }
        owners[place] = player;
        return true;
    }

    public boolean give(int player, int place) {
        if (phase != PLAYING || !isSeated(player) || !isPlace(place)) {
            return false;
        }
        Player one = players[player];
        if (owners[place] == UNDEALT || owners[place] == player || one.hasGiven(place)) {
            return false;
        }
        int lock = one.locks[place];
        one.given[place] = one.cheatsAt(WRONG_GIVEN, place) ? Numbers.exponentAbove(lock, p) : lock;
        return true;
    }

    public int open(int player, int place) {
        if (phase < PLAYING || !isSeated(player) || !isPlace(place) || !mayOpen(player, place)) {
            return NONE;
        }
        int number = decks[turns][place];
        for (int k = 0; k < seats; k++) {
            Player one = players[k];
            int lock = one.hasGiven(place) ? one.given[place] : one.locks[place];
            number = Numbers.power(number, Numbers.inverse(lock, p), p);
        }
        return cardOf(number);
    }

    public boolean round() {
        if (phase != PLAYING || actor != NONE) {
            return false;
        }
        awaitAll();
        if (countAbleToAct() >= FEWEST_PLAYERS) {
            actor = nextToAct(NONE);
        }
        return true;
    }

    public boolean bet(int player, int kind, int n) {
        if (actor == NONE || player != actor) {
            return false;
        }
        Player one = players[actor];
        int missing = mostInRound() - one.inRound;
        switch (kind) {
            case FOLD:
                one.folded = true;
                break;
            case CALL:
                one.putIn(Math.min(missing, one.chips));
                break;
            case RAISE:
                if (n < 1 || n > one.chips - missing) {
                    return false;
                }
                one.putIn(missing + n);
                awaitAll();
                break;
            default:
                return false;
        }
        one.acted = true;
        goOnWithRound();
        return true;
    }

    public boolean settle(int ranks) {
        if (phase != PLAYING || actor != NONE) {
            return false;
        }
        // Each layer empties at least one player, so there are no more layers than players.
        for (int layer = 0; layer < seats; layer++) {
            payLayer(leastInHand(), ranks);
        }
        phase = SHOWING;
        return true;
    }

    public boolean show(int player) {
        if (phase != SHOWING || !isSeated(player) || players[player].hasShown) {
            return false;
        }
        players[player].showSecrets(p);
        if (allShown()) {
            phase = SHOWN;
            // Nothing that the AUDIT looks at changes in this PHASE, so it is reckoned once.
            verdict = reckonAudit();
        }
        return true;
    }

    public int audit() throws IllegalStateException {
        if (phase != SHOWN) {
            throw new IllegalStateException("not all secrets are shown");
        }
        return verdict;
    }

    public boolean cheat(int player, int kind, int place) {
        if (phase < SEALING || phase > SHOWING || !isSeated(player)) {
            return false;
        }
        if (kind < 0 || kind >= CHEATS || !isPlace(place)) {
            return false;
        }
        players[player].cheats[kind] |= 1L << place;
        return true;
    }

    public int state(int what) {
        switch (what) {
            case 0:
                return phase;
            case 1:
                return seats;
            case 2:
                return actor != NONE ? actor : nextToTurn();
            case 3:
                return sumInHand();
            case 4:
                return mostInRound();
            default:
                return NONE;
        }
    }

    public int player(int k, int what) {
        if (!isSeated(k)) {
            return NONE;
        }
        Player one = players[k];
        switch (what) {
            case 0:
                return one.chips;
            case 1:
                return one.inHand;
            case 2:
                return one.inRound;
            case 3:
                return phase >= PLAYING && !one.folded ? 1 : 0;
            case 4:
                return one.countGiven();
            default:
                return NONE;
        }
    }

    private boolean isSeated(int player) {
        return player >= 0 && player < seats;
    }

    private static boolean isPlace(int place) {
        return place >= 0 && place < CARDS;
    }

    private int countWithChips() {
        int count = 0;
        for (int k = 0; k < seats; k++) {
            if (players[k].chips > 0) {
                count++;
            }
        }
        return count;
    }

    private boolean allSealed() {
        for (int k = 0; k < seats; k++) {
            if (!players[k].sealed) {
                return false;
            }
        }
        return true;
    }

    private boolean allShown() {
        for (int k = 0; k < seats; k++) {
            if (!players[k].hasShown) {
                return false;
            }
        }
        return true;
    }

    private int nextToTurn() {
        if (phase != LOCKING && phase != RELOCKING) {
            return NONE;
        }
        return playerOfTurn(turns);
    }

    private int playerOfTurn(int number) {
        return number < seats ? number : number - seats;
    }

    /** What the turn of this number makes, by these secrets, of the deck that lay before it. */
    private void reckonTurn(int number, Secrets by, int[] laid) {
        int[] before = decks[number];
        if (number < seats) {
            Draws.fillOrder(by.orderKey, orderRow);
            for (int place = 0; place < CARDS; place++) {
                laid[place] = Numbers.power(before[orderRow[place]], by.exponent, p);
            }
            return;
        }
        // No cheat changes the KEY of LOCKS that is shown: the row of the sealed one serves both.
        int[] locks = players[playerOfTurn(number)].locks;
        int unlock = Numbers.inverse(by.exponent, p);
        for (int place = 0; place < CARDS; place++) {
            // One power by the product of both exponents, modulo P - 1, is the two powers in turn.
            laid[place] = Numbers.power(before[place], Numbers.times(unlock, locks[place], p - 1), p);
        }
    }

    private void spoil(int[] laid, Player one, int kind) {
        for (int place = 0; place < CARDS; place++) {
            if (one.cheatsAt(kind, place)) {
                laid[place] = laid[place] == p - 1 ? 1 : laid[place] + 1;
            }
        }
    }

    private boolean mayOpen(int player, int place) {
        int owner = owners[place];
        if (owner == UNDEALT || (owner != NONE && owner != player)) {
            return false;
        }
        for (int k = 0; k < seats; k++) {
            if (k != owner && !players[k].hasGiven(place)) {
                return false;
            }
        }
        return true;
    }

    /** The card of a number, or CARDS if it is that of none. */
    private int cardOf(int number) {
        for (int card = 0; card < CARDS; card++) {
            if (decks[0][card] == number) {
                return card;
            }
        }
        return CARDS;
    }

    private void awaitAll() {
        for (int k = 0; k < seats; k++) {
            players[k].acted = false;
        }
    }

    private void goOnWithRound() {
        actor = countIn() < 2 ? NONE : nextToAct(actor);
        if (actor != NONE) {
            return;
        }
        for (int k = 0; k < seats; k++) {
            players[k].inRound = 0;
        }
    }

    /** The next player behind one, around, that has yet to act; behind NONE, the first of all. */
    private int nextToAct(int behind) {
        for (int step = 1; step <= seats; step++) {
            int k = behind + step < seats ? behind + step : behind + step - seats;
            if (isSeated(k) && players[k].canAct() && !players[k].acted) {
                return k;
            }
        }
        return NONE;
    }

    private int countIn() {
        int count = 0;
        for (int k = 0; k < seats; k++) {
            if (!players[k].folded) {
                count++;
            }
        }
        return count;
    }

    private int countAbleToAct() {
        int count = 0;
        for (int k = 0; k < seats; k++) {
            if (players[k].canAct()) {
                count++;
            }
        }
        return count;
    }

    private int mostInRound() {
        int most = 0;
        for (int k = 0; k < seats; k++) {
            most = Math.max(most, players[k].inRound);
        }
        return most;
    }

    private int sumInHand() {
        int sum = 0;
        for (int k = 0; k < seats; k++) {
            sum += players[k].inHand;
        }
        return sum;
    }

    /** The least amount above 0 that a player has in yet; 0 if none has any. */
    private int leastInHand() {
        int least = 0;
        for (int k = 0; k < seats; k++) {
            int amount = players[k].inHand;
            if (amount > 0 && (least == 0 || amount < least)) {
                least = amount;
            }
        }
        return least;
    }

    private void payLayer(int amount, int ranks) {
        int best = bestRank(ranks);
        int pot = 0;
        int winners = 0;
        for (int k = 0; k < seats; k++) {
            if (players[k].inHand > 0) {
                pot += amount;
            }
            if (winsLayer(k, ranks, best)) {
                winners++;
            }
        }
        int share = winners > 0 ? pot / winners : 0;
        int rest = pot - share * winners;
        for (int k = 0; k < seats; k++) {
            Player one = players[k];
            if (winners == 0 && one.inHand > 0) {
                one.chips += amount;
            } else if (winsLayer(k, ranks, best)) {
                one.chips += share + rest;
                rest = 0;
            }
            one.inHand -= one.inHand > 0 ? amount : 0;
        }
    }

    private boolean winsLayer(int k, int ranks, int best) {
        return players[k].isInFor() && rankOf(k, ranks) == best;
    }

    private int bestRank(int ranks) {
        int best = NONE;
        for (int k = 0; k < seats; k++) {
            if (players[k].isInFor()) {
                best = Math.max(best, rankOf(k, ranks));
            }
        }
        return best;
    }

    private static int rankOf(int k, int ranks) {
        return (ranks >>> (4 * k)) & 15;
    }

    private int reckonAudit() {
        for (int k = 0; k < seats; k++) {
            if (players[k].mark != players[k].shown.mark()) {
                return 16 * k + 1;
            }
        }
        for (int number = 0; number < 2 * seats; number++) {
            int k = playerOfTurn(number);
            reckonTurn(number, players[k].shown, deckRow);
            if (!isSameDeck(deckRow, decks[number + 1])) {
                return 16 * k + (number < seats ? 2 : 3);
            }
        }
        for (int place = 0; place < CARDS; place++) {
            for (int k = 0; k < seats; k++) {
                if (players[k].gaveWrong(place)) {
                    return 16 * k + 4;
                }
            }
        }
        return 0;
    }

    private static boolean isSameDeck(int[] a, int[] b) {
        for (int place = 0; place < CARDS; place++) {
            if (a[place] != b[place]) {
                return false;
            }
        }
        return true;
    }

    private static final class Player {
        int chips;
        int inHand;
        int inRound;
        boolean folded;
        /** Whether it acted since the latest RAISE, or the beginning of the ROUND. */
        boolean acted;
        boolean sealed;
        long mark;
        boolean hasShown;
        final Secrets secrets;
        final Secrets shown;
        final int[] locks;
        /** Its LOCKS as it gave them, 0 where it gave none. */
        final int[] given;
        /** For each kind of cheating the places it was told, as bits. */
        final long[] cheats;

        Player() {
            secrets = new Secrets();
            shown = new Secrets();
            locks = new int[CARDS];
            given = new int[CARDS];
            cheats = new long[CHEATS];
        }

        void beginHand() {
            inHand = 0;
            inRound = 0;
            folded = false;
            sealed = false;
            hasShown = false;
            Arrays.fill(given, 0);
            Arrays.fill(cheats, 0L);
        }

        boolean canAct() {
            return !folded && chips > 0;
        }

        boolean isInFor() {
            return !folded && inHand > 0;
        }

        void putIn(int amount) {
            chips -= amount;
            inRound += amount;
            inHand += amount;
        }

        boolean hasGiven(int place) {
            return given[place] != 0;
        }

        boolean gaveWrong(int place) {
            return hasGiven(place) && given[place] != locks[place];
        }

        int countGiven() {
            int count = 0;
            for (int place = 0; place < CARDS; place++) {
                if (hasGiven(place)) {
                    count++;
                }
            }
            return count;
        }

        boolean cheatsAt(int kind, int place) {
            return (cheats[kind] >>> place & 1L) == 1L;
        }

        void showSecrets(int p) {
            int e = secrets.exponent;
            long order = secrets.orderKey;
            shown.keep(
                    cheats[WRONG_EXPONENT] != 0 ? Numbers.exponentAbove(e, p) : e,
                    cheats[WRONG_ORDER] != 0 ? order + 1 : order,
                    secrets.locksKey);
            hasShown = true;
        }
    }

    private static final class Secrets {
        private static final long FIRST_FACTOR = -4658895280553007687L;
        private static final long SECOND_FACTOR = -7723592293110705685L;

        int exponent;
        long orderKey;
        long locksKey;

        void keep(int exponent, long orderKey, long locksKey) {
            this.exponent = exponent;
            this.orderKey = orderKey;
            this.locksKey = locksKey;
        }

        /** THE SEAL of these secrets. */
        long mark() {
            long h = exponent;
            h = (h ^ (h >>> 29)) * FIRST_FACTOR + orderKey;
            h = (h ^ (h >>> 32)) * SECOND_FACTOR + locksKey;
            h = (h ^ (h >>> 29)) * FIRST_FACTOR;
            return h ^ (h >>> 32);
        }
    }

    private static final class Draws {
        // About every second draw makes an EXPONENT; no run comes near this bound.
        private static final int MOST_TRIES = 1000000;

        private long key;

        Draws(long key) {
            this.key = key;
        }

        static void fillOrder(long key, int[] row) {
            Draws draws = new Draws(key);
            for (int k = 0; k < CARDS; k++) {
                row[k] = k;
            }
            for (int k = CARDS - 1; k >= 1; k--) {
                int other = draws.next() % (k + 1);
                int card = row[k];
                row[k] = row[other];
                row[other] = card;
            }
        }

        static void fillLocks(long key, int p, int[] row) {
            Draws draws = new Draws(key);
            for (int place = 0; place < CARDS; place++) {
                row[place] = draws.nextExponent(p);
            }
        }

        private int next() {
            key = key * 6364136223846793005L + 1442695040888963407L;
            return (int) (key >>> 33);
        }

        private int nextExponent(int p) {
            for (int tries = 0; tries < MOST_TRIES && p > 4; tries++) {
                int e = Numbers.LEAST_EXPONENT + next() % (p - 4);
                if (Numbers.isExponent(e, p)) {
                    return e;
                }
            }
            return Numbers.LEAST_EXPONENT;
        }
    }

    private static final class Numbers {
        static final int LEAST_EXPONENT = 3;

        private static final int ABOVE = 1 << 16;
        // No composite number below 3215031751 is taken for a prime by all of these.
        private static final int[] WITNESSES = {2, 3, 5, 7};

        static boolean isTablePrime(int p) {
            return p > ABOVE && isPrime(p) && isPrime((p - 1) / 2);
        }

        /** Of a number above all witnesses. */
        private static boolean isPrime(int n) {
            for (int i = 0; i < WITNESSES.length; i++) {
                if (!looksPrime(n, WITNESSES[i])) {
                    return false;
                }
            }
            return true;
        }

        /** The test of Miller and Rabin. */
        private static boolean looksPrime(int n, int witness) {
            int odd = n - 1;
            int halvings = 0;
            for (int i = 0; i < 31 && odd % 2 == 0; i++) {
                odd /= 2;
                halvings++;
            }
            int x = power(witness, odd, n);
            if (x == 1 || x == n - 1) {
                return true;
            }
            for (int i = 1; i < halvings; i++) {
                x = times(x, x, n);
                if (x == n - 1) {
                    return true;
                }
            }
            return false;
        }

        static int ofCard(int card, int p) {
            return times(card + 2, card + 2, p);
        }

        /** P - 1 is twice a prime: only that prime and 2 can be factors in common. */
        static boolean isExponent(int e, int p) {
            return e >= LEAST_EXPONENT && e <= p - 2 && e % 2 == 1 && e != (p - 1) / 2;
        }

        static int exponentAbove(int e, int p) {
            for (int above = e + 1; above <= p - 2; above++) {
                if (isExponent(above, p)) {
                    return above;
                }
            }
            return LEAST_EXPONENT;
        }

        /** The inverse modulo P - 1: there are (P - 1) / 2 - 1 numbers without a factor in common. */
        static int inverse(int e, int p) {
            return power(e, (p - 1) / 2 - 2, p - 1);
        }

        static int times(int a, int b, int modulus) {
            return modulus > 0 ? (int) ((long) a * b % modulus) : 0;
        }

        static int power(int base, int exponent, int modulus) {
            int result = 1;
            int square = base;
            for (int left = exponent; left > 0; left /= 2) {
                if (left % 2 == 1) {
                    result = times(result, square, modulus);
                }
                square = times(square, square, modulus);
            }
            return result;
        }
    }
}
