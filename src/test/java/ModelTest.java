import java.math.BigInteger;
import java.util.ArrayList;
import java.util.Arrays;
import java.util.List;
import java.util.Random;

/** Long runs of calls, right and wrong ones mixed, against a slow second writing of the document. */
public final class ModelTest {
    private static final int RUNS = 1200;
    private static final int CALLS = 512;
    private static final int[] PRIMES = {65543, 65579, 20000159, 2147483579};

    private static int wrong = 0;

    public static void main(String[] args) {
        int[] verdicts = new int[64];
        int[] phases = new int[7];
        for (int run = 0; run < RUNS; run++) {
            new Driver(run, verdicts, phases).drive();
        }
        int kinds = 0;
        for (int verdict : verdicts) {
            kinds += verdict > 0 ? 1 : 0;
        }
        // A driver that never gets through a hand would compare nothing that matters.
        if (kinds < 17 || phases[6] < RUNS / 10) {
            wrong++;
            System.out.println("the runs reach too little: " + kinds + " verdicts " + Arrays.toString(verdicts) + ", " + phases[6] + " in phase 6");
        }
        System.out.println(wrong == 0 ? "all answers are as due" : wrong + " answers are not as due");
        if (wrong != 0) {
            System.exit(1);
        }
    }

    private static final class Driver {
        private final int run;
        private final int[] verdicts;
        private final int[] phases;
        private final Random random;
        private final OpenDeal deal = new OpenDeal();
        private final Model model = new Model();
        private int calls = 0;

        Driver(int run, int[] verdicts, int[] phases) {
            this.run = run;
            this.verdicts = verdicts;
            this.phases = phases;
            random = new Random(run);
        }

        private void due(String call, long got, long want) {
            calls++;
            if (got != want) {
                wrong++;
                if (wrong < 20) {
                    System.out.println("run " + run + " call " + calls + ": " + call + " answered " + got + ", due is " + want);
                }
            }
        }

        private static long bit(boolean b) {
            return b ? 1 : 0;
        }

        private int some(int low, int high) {
            return low + random.nextInt(high - low + 1);
        }

        private boolean rarely() {
            return random.nextInt(8) == 0;
        }

        void drive() {
            while (calls < CALLS - 8) {
                if (rarely()) {
                    strayCall();
                } else if (random.nextInt(12) == 0) {
                    someCheat(some(0, 3), some(0, 5));
                } else {
                    fittingCall();
                }
                look();
            }
        }

        private void look() {
            int what = some(-1, 5);
            due("state(" + what + ")", deal.state(what), model.state(what));
            int k = some(-1, model.people.size());
            what = some(-1, 5);
            due("player(" + k + ", " + what + ")", deal.player(k, what), model.player(k, what));
            if (random.nextInt(4) == 0) {
                laid(rarely() ? (random.nextBoolean() ? -1 : 52) : some(0, 51));
            }
        }

        private void laid(int place) {
            long got;
            try {
                got = deal.laid(place);
            } catch (IndexOutOfBoundsException e) {
                got = Long.MIN_VALUE;
            }
            due("laid(" + place + ")", got, model.laid(place));
        }

        private void sealOf(int player) {
            String got;
            try {
                got = "" + deal.sealOf(player);
            } catch (IndexOutOfBoundsException e) {
                got = "throws";
            }
            due("sealOf(" + player + ")", bit(got.equals(model.sealOf(player))), 1);
        }

        private void audit() {
            int got;
            try {
                got = deal.audit();
            } catch (IllegalStateException e) {
                got = -99;
            }
            int want = model.audit();
            if (want >= 0) {
                verdicts[want]++;
            }
            due("audit()", got, want);
        }

        private void prime(int p) {
            due("prime(" + p + ")", bit(deal.prime(p)), bit(model.prime(p)));
        }

        private void seat(int chips) {
            due("seat(" + chips + ")", deal.seat(chips), model.seat(chips));
        }

        private void begin() {
            due("deal()", bit(deal.deal()), bit(model.deal()));
        }

        private void seal(int player) {
            int p = model.p == 0 ? 65543 : model.p;
            int e;
            switch (random.nextInt(8)) {
                case 0: e = p - 2 + random.nextInt(3) - 1; break;
                case 1: e = (p - 1) / 2 + random.nextInt(5) - 2; break;
                case 2: e = random.nextInt(8) - 1; break;
                default: e = 3 + random.nextInt(p - 4) | 1; break;
            }
            long order = random.nextLong();
            long locks = random.nextLong();
            due("seal(" + player + ", " + e + ", " + order + ", " + locks + ")",
                    bit(deal.seal(player, e, order, locks)), bit(model.seal(player, e, order, locks)));
        }

        private void turn(int player) {
            due("turn(" + player + ")", bit(deal.turn(player)), bit(model.turn(player)));
        }

        private void assign(int place, int player) {
            due("assign(" + place + ", " + player + ")", bit(deal.assign(place, player)), bit(model.assign(place, player)));
        }

        private void give(int player, int place) {
            due("give(" + player + ", " + place + ")", bit(deal.give(player, place)), bit(model.give(player, place)));
        }

        private void open(int player, int place) {
            due("open(" + player + ", " + place + ")", deal.open(player, place), model.open(player, place));
        }

        private void round() {
            due("round()", bit(deal.round()), bit(model.round()));
        }

        private void bet(int player, int kind, int n) {
            due("bet(" + player + ", " + kind + ", " + n + ")", bit(deal.bet(player, kind, n)), bit(model.bet(player, kind, n)));
        }

        private void settle(int ranks) {
            due("settle(" + ranks + ")", bit(deal.settle(ranks)), bit(model.settle(ranks)));
        }

        private void show(int player) {
            due("show(" + player + ")", bit(deal.show(player)), bit(model.show(player)));
        }

        private void cheat(int player, int kind, int place) {
            due("cheat(" + player + ", " + kind + ", " + place + ")",
                    bit(deal.cheat(player, kind, place)), bit(model.cheat(player, kind, place)));
        }

        private void strayCall() {
            int player = some(-2, 4);
            int place = random.nextBoolean() ? some(0, 5) : some(-1, 52);
            switch (random.nextInt(16)) {
                case 0: prime(random.nextInt()); break;
                case 1: if (random.nextInt(12) == 0) { deal.clear(); model.clear(); calls++; } break;
                case 2: seat(some(-1, 1) == 0 ? some(1, 50) : some(99999, 100002)); break;
                case 3: begin(); break;
                case 4: seal(player); break;
                case 5: sealOf(player); break;
                case 6: turn(player); break;
                case 7: assign(place, player); break;
                case 8: give(player, place); break;
                case 9: open(player, place); break;
                case 10: round(); break;
                case 11: bet(player, some(-1, 3), random.nextBoolean() ? some(-1, 9) : Integer.MAX_VALUE); break;
                case 12: if (random.nextInt(4) == 0) { settle(random.nextInt()); } break;
                case 13: show(player); break;
                case 14: audit(); break;
                default: someCheat(player, place); break;
            }
        }

        private void someCheat(int player, int place) {
            // A wrong secret shown hides every other cheat from the audit: most runs do without.
            int kinds = run % 8;
            if (kinds == 7) {
                cheat(player, some(-1, 5), place);
            } else if (kinds >= 4) {
                cheat(player, kinds - 4, place);
            } else if (kinds >= 2) {
                cheat(player, 2, place);
            }
        }

        private void fittingCall() {
            int players = model.people.size();
            phases[model.phase]++;
            switch (model.phase) {
                case 0:
                    if (model.p == 0) {
                        prime(PRIMES[random.nextInt(PRIMES.length)]);
                    } else if (players < 2 || (players < 4 && random.nextInt(3) != 0)) {
                        seat(some(1, 40));
                    } else {
                        begin();
                    }
                    break;
                case 1: seal(some(0, players - 1)); break;
                case 2:
                case 3: turn(model.state(2)); break;
                case 4: play(players); break;
                case 5: show(some(0, players - 1)); break;
                default: finish(players); break;
            }
        }

        private void play(int players) {
            if (model.state(2) >= 0) {
                int kind = random.nextInt(6);
                bet(model.state(2), kind == 0 ? 0 : kind < 4 ? 1 : 2, some(1, 12));
                return;
            }
            int place = some(0, 5);
            switch (random.nextInt(20)) {
                case 0:
                case 1: round(); break;
                case 2: settle(random.nextInt()); break;
                case 3:
                case 4: assign(place, some(-1, players - 1)); break;
                case 5:
                case 6:
                case 7:
                case 8: open(some(0, players - 1), place); break;
                default: give(some(0, players - 1), place); break;
            }
        }

        private void finish(int players) {
            switch (random.nextInt(5)) {
                case 0: begin(); break;
                case 1: open(some(0, players - 1), some(0, 5)); break;
                case 2: if (random.nextInt(3) == 0) { deal.clear(); model.clear(); calls++; } break;
                default: audit(); break;
            }
        }
    }

    private static final class Person {
        int chips;
        int hand;
        boolean in;
        boolean due;
        int e;
        long order;
        long locks;
        boolean sealed;
        boolean shown;
        int shownE;
        long shownOrder;
        final Integer[] given = new Integer[52];
        final boolean[][] cheats = new boolean[5][52];
        BigInteger[] beforeLock;
        BigInteger[] afterLock;
        BigInteger[] beforeRelock;
        BigInteger[] afterRelock;
    }

    /** The document, written with big numbers and without a thought of speed. */
    private static final class Model {
        int p;
        int phase;
        List<Person> people = new ArrayList<>();
        BigInteger[] deck = new BigInteger[52];
        int next;
        Integer[] owner = new Integer[52];
        boolean under;
        int acting;
        int[] put = new int[4];

        private BigInteger big() {
            return BigInteger.valueOf(p);
        }

        private static boolean trialPrime(long n) {
            if (n < 2) {
                return false;
            }
            for (long d = 2; d * d <= n; d++) {
                if (n % d == 0) {
                    return false;
                }
            }
            return true;
        }

        private boolean exponent(long e) {
            return e >= 3 && e <= p - 2
                    && BigInteger.valueOf(e).gcd(BigInteger.valueOf(p - 1)).equals(BigInteger.ONE);
        }

        private int above(int e) {
            for (long f = e + 1L; f <= p - 2; f++) {
                if (exponent(f)) {
                    return (int) f;
                }
            }
            return 3;
        }

        private BigInteger unlock(int lock) {
            return BigInteger.valueOf(lock).modInverse(BigInteger.valueOf(p - 1));
        }

        private static int[] order(long key) {
            int[] row = new int[52];
            for (int i = 0; i < 52; i++) {
                row[i] = i;
            }
            for (int k = 51; k >= 1; k--) {
                key = key * 6364136223846793005L + 1442695040888963407L;
                int other = (int) ((key >>> 33) % (k + 1));
                int was = row[k];
                row[k] = row[other];
                row[other] = was;
            }
            return row;
        }

        private int[] locks(long key) {
            int[] row = new int[52];
            for (int place = 0; place < 52; place++) {
                long e;
                do {
                    key = key * 6364136223846793005L + 1442695040888963407L;
                    e = 3 + (key >>> 33) % (p - 4L);
                } while (!exponent(e));
                row[place] = (int) e;
            }
            return row;
        }

        private static long mark(long h, long k, long l) {
            h = (h ^ (h >>> 29)) * -4658895280553007687L + k;
            h = (h ^ (h >>> 32)) * -7723592293110705685L + l;
            h = (h ^ (h >>> 29)) * -4658895280553007687L;
            return h ^ (h >>> 32);
        }

        private BigInteger[] locked(BigInteger[] before, int e, long orderKey) {
            int[] order = order(orderKey);
            BigInteger[] after = new BigInteger[52];
            for (int j = 0; j < 52; j++) {
                after[j] = before[order[j]].modPow(BigInteger.valueOf(e), big());
            }
            return after;
        }

        private BigInteger[] relocked(BigInteger[] before, int e, long locksKey) {
            int[] locks = locks(locksKey);
            BigInteger[] after = new BigInteger[52];
            for (int j = 0; j < 52; j++) {
                after[j] = before[j].modPow(unlock(e), big()).modPow(BigInteger.valueOf(locks[j]), big());
            }
            return after;
        }

        private void freshDeck() {
            for (int i = 0; i < 52; i++) {
                deck[i] = BigInteger.valueOf(i + 2).pow(2).mod(big());
            }
        }

        private boolean there(int player) {
            return player >= 0 && player < people.size();
        }

        private static boolean placed(int place) {
            return place >= 0 && place <= 51;
        }

        boolean prime(int n) {
            if (p != 0 || n <= 65536 || !trialPrime(n) || !trialPrime((n - 1) / 2)) {
                return false;
            }
            p = n;
            freshDeck();
            return true;
        }

        void clear() {
            p = 0;
            phase = 0;
            people = new ArrayList<>();
            under = false;
        }

        int seat(int chips) {
            if (people.size() == 4 || phase != 0 || chips < 1 || chips > 100000) {
                return -1;
            }
            Person person = new Person();
            person.chips = chips;
            people.add(person);
            return people.size() - 1;
        }

        boolean deal() {
            if (p == 0 || people.size() < 2 || (phase != 0 && phase != 6)) {
                return false;
            }
            for (Person person : people) {
                if (person.chips == 0) {
                    return false;
                }
            }
            List<Person> fresh = new ArrayList<>();
            for (Person person : people) {
                Person again = new Person();
                again.chips = person.chips;
                again.in = true;
                fresh.add(again);
            }
            people = fresh;
            freshDeck();
            owner = new Integer[52];
            next = 0;
            phase = 1;
            return true;
        }

        boolean seal(int player, int e, long order, long locks) {
            if (!there(player) || phase != 1 || people.get(player).sealed || !exponent(e)) {
                return false;
            }
            Person person = people.get(player);
            person.sealed = true;
            person.e = e;
            person.order = order;
            person.locks = locks;
            if (people.stream().allMatch(q -> q.sealed)) {
                phase = 2;
            }
            return true;
        }

        String sealOf(int player) {
            if (!there(player) || !people.get(player).sealed) {
                return "throws";
            }
            Person person = people.get(player);
            return "" + mark(person.e, person.order, person.locks);
        }

        private void spoil(BigInteger[] row, boolean[] places) {
            for (int j = 0; j < 52; j++) {
                if (places[j]) {
                    BigInteger more = row[j].add(BigInteger.ONE);
                    row[j] = more.equals(big()) ? BigInteger.ONE : more;
                }
            }
        }

        boolean turn(int player) {
            if ((phase != 2 && phase != 3) || player != next) {
                return false;
            }
            Person person = people.get(player);
            if (phase == 2) {
                person.beforeLock = deck.clone();
                deck = locked(deck, person.e, person.order);
                spoil(deck, person.cheats[0]);
                person.afterLock = deck.clone();
            } else {
                person.beforeRelock = deck.clone();
                deck = relocked(deck, person.e, person.locks);
                spoil(deck, person.cheats[1]);
                person.afterRelock = deck.clone();
            }
            next++;
            if (next == people.size()) {
                next = 0;
                phase++;
            }
            return true;
        }

        long laid(int place) {
            return !placed(place) || p == 0 ? Long.MIN_VALUE : deck[place].longValue();
        }

        boolean assign(int place, int player) {
            if (!placed(place) || (player != -1 && !there(player)) || phase != 4 || owner[place] != null) {
                return false;
            }
            owner[place] = player;
            return true;
        }

        boolean give(int player, int place) {
            if (!there(player) || !placed(place) || phase != 4 || owner[place] == null
                    || owner[place] == player || people.get(player).given[place] != null) {
                return false;
            }
            Person person = people.get(player);
            int lock = locks(person.locks)[place];
            person.given[place] = person.cheats[2][place] ? above(lock) : lock;
            return true;
        }

        int open(int player, int place) {
            if (!there(player) || !placed(place) || phase < 4 || owner[place] == null
                    || (owner[place] != -1 && owner[place] != player)) {
                return -1;
            }
            BigInteger number = deck[place];
            for (int k = 0; k < people.size(); k++) {
                Person person = people.get(k);
                if (person.given[place] != null) {
                    number = number.modPow(unlock(person.given[place]), big());
                } else if (owner[place] == k) {
                    number = number.modPow(unlock(locks(person.locks)[place]), big());
                } else {
                    return -1;
                }
            }
            for (int card = 0; card < 52; card++) {
                if (number.equals(BigInteger.valueOf((card + 2L) * (card + 2L)))) {
                    return card;
                }
            }
            return 52;
        }

        private void everyoneIsDue() {
            people.forEach(q -> q.due = true);
        }

        private boolean able(int k) {
            return people.get(k).in && people.get(k).chips > 0;
        }

        private int most() {
            int most = 0;
            for (int amount : put) {
                most = Math.max(most, amount);
            }
            return most;
        }

        boolean round() {
            if (phase != 4 || under) {
                return false;
            }
            put = new int[4];
            everyoneIsDue();
            int able = 0;
            for (int k = people.size() - 1; k >= 0; k--) {
                if (able(k)) {
                    able++;
                    acting = k;
                }
            }
            under = able >= 2;
            return true;
        }

        boolean bet(int player, int kind, int n) {
            if (!under || player != acting || kind < 0 || kind > 2) {
                return false;
            }
            Person person = people.get(player);
            long pays = most() - put[player];
            if (kind == 2) {
                pays += n;
                if (n < 1 || pays > person.chips) {
                    return false;
                }
                everyoneIsDue();
            } else if (kind == 1) {
                pays = Math.min(pays, person.chips);
            } else {
                pays = 0;
                person.in = false;
            }
            person.chips -= (int) pays;
            put[player] += (int) pays;
            person.hand += (int) pays;
            person.due = false;
            under = false;
            for (int k = player + people.size() - 1; k > player; k--) {
                int other = k % people.size();
                if (able(other) && people.get(other).due) {
                    acting = other;
                    under = true;
                }
            }
            if (people.stream().filter(q -> q.in).count() == 1) {
                under = false;
            }
            return true;
        }

        boolean settle(int ranks) {
            if (phase != 4 || under) {
                return false;
            }
            while (people.stream().anyMatch(q -> q.hand > 0)) {
                int least = people.stream().mapToInt(q -> q.hand).filter(h -> h > 0).min().getAsInt();
                List<Integer> some = new ArrayList<>();
                List<Integer> best = new ArrayList<>();
                int bestRank = -1;
                for (int k = 0; k < people.size(); k++) {
                    Person person = people.get(k);
                    if (person.hand == 0) {
                        continue;
                    }
                    person.hand -= least;
                    some.add(k);
                    int rank = ranks >> 4 * k & 15;
                    if (person.in && rank > bestRank) {
                        bestRank = rank;
                        best.clear();
                    }
                    if (person.in && rank == bestRank) {
                        best.add(k);
                    }
                }
                int pot = least * some.size();
                if (best.isEmpty()) {
                    some.forEach(k -> people.get(k).chips += least);
                } else {
                    best.forEach(k -> people.get(k).chips += pot / best.size());
                    people.get(best.get(0)).chips += pot % best.size();
                }
            }
            phase = 5;
            return true;
        }

        boolean show(int player) {
            if (!there(player) || phase != 5 || people.get(player).shown) {
                return false;
            }
            Person person = people.get(player);
            person.shown = true;
            person.shownE = any(person.cheats[3]) ? above(person.e) : person.e;
            person.shownOrder = any(person.cheats[4]) ? person.order + 1 : person.order;
            if (people.stream().allMatch(q -> q.shown)) {
                phase = 6;
            }
            return true;
        }

        private static boolean any(boolean[] row) {
            for (boolean b : row) {
                if (b) {
                    return true;
                }
            }
            return false;
        }

        int audit() {
            if (phase != 6) {
                return -99;
            }
            for (int k = 0; k < people.size(); k++) {
                Person q = people.get(k);
                if (mark(q.shownE, q.shownOrder, q.locks) != mark(q.e, q.order, q.locks)) {
                    return 16 * k + 1;
                }
            }
            for (int k = 0; k < people.size(); k++) {
                Person q = people.get(k);
                if (!List.of(locked(q.beforeLock, q.shownE, q.shownOrder)).equals(List.of(q.afterLock))) {
                    return 16 * k + 2;
                }
            }
            for (int k = 0; k < people.size(); k++) {
                Person q = people.get(k);
                if (!List.of(relocked(q.beforeRelock, q.shownE, q.locks)).equals(List.of(q.afterRelock))) {
                    return 16 * k + 3;
                }
            }
            for (int place = 0; place < 52; place++) {
                for (int k = 0; k < people.size(); k++) {
                    Person q = people.get(k);
                    if (q.given[place] != null && q.given[place] != locks(q.locks)[place]) {
                        return 16 * k + 4;
                    }
                }
            }
            return 0;
        }

        boolean cheat(int player, int kind, int place) {
            if (!there(player) || kind < 0 || kind > 4 || !placed(place) || phase < 1 || phase > 5) {
                return false;
            }
            people.get(player).cheats[kind][place] = true;
            return true;
        }

        int state(int what) {
            switch (what) {
                case 0: return phase;
                case 1: return people.size();
                case 2: return phase == 2 || phase == 3 ? next : under ? acting : -1;
                case 3: return people.stream().mapToInt(q -> q.hand).sum();
                case 4: return under ? most() : 0;
                default: return -1;
            }
        }

        int player(int k, int what) {
            if (!there(k)) {
                return -1;
            }
            Person person = people.get(k);
            switch (what) {
                case 0: return person.chips;
                case 1: return person.hand;
                case 2: return under ? put[k] : 0;
                case 3: return phase >= 4 && person.in ? 1 : 0;
                case 4:
                    int count = 0;
                    for (Integer lock : person.given) {
                        count += lock != null ? 1 : 0;
                    }
                    return count;
                default: return -1;
            }
        }
    }
}
