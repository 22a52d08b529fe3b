import java.util.ArrayList;
import java.util.List;
import java.util.function.Function;

/**
 * A call that is refused changes nothing, and a call that only asks changes nothing: the rest of the
 * hand goes on behind it as it does without it. Each table stays within its 512 calls.
 */
public final class RefusedTest extends Checks {
    private static final int[] PLAYERS = {Integer.MIN_VALUE, -2, -1, 0, 1, 2, 3, 4, Integer.MAX_VALUE};
    private static final int[] PLACES = {Integer.MIN_VALUE, -1, 0, 3, 51, 52, Integer.MAX_VALUE};
    private static final int[] KINDS = {Integer.MIN_VALUE, -1, 0, 1, 2, 3, 4, 5, Integer.MAX_VALUE};
    private static final int[] AMOUNTS = {Integer.MIN_VALUE, -1, 0, 1, 80, 100, 101, Integer.MAX_VALUE};
    private static final int[] PRIMES = {Integer.MIN_VALUE, 0, 65267, 65536, 65537, 65559, 65579, Integer.MAX_VALUE};
    private static final int[] EXPONENTS = {Integer.MIN_VALUE, -3, 0, 2, 3, 4, (P - 1) / 2, P - 2, P - 1, P, Integer.MAX_VALUE};
    private static final int THROWN = -99;

    private static final List<Call> CALLS = new ArrayList<>();

    /** A call of the face; whether an answer of it means that it changed something. */
    private record Call(String name, boolean asks, Function<OpenDeal, Long> made) {
        boolean leavesAll(long answer) {
            return asks || answer == NONE || answer == THROWN;
        }
    }

    public static void main(String[] args) {
        about("refused, or asked");
        addTableCalls();
        addHandCalls();
        addAskingCalls();
        int compared = 0;
        for (int table = 0; table < 17; table++) {
            String want = story(table(table));
            for (Call call : CALLS) {
                OpenDeal x = table(table);
                if (call.leavesAll(call.made.apply(x))) {
                    compared++;
                    yes("table " + table + " as it was behind " + call.name, story(x).equals(want));
                }
            }
        }
        yes("many were compared: " + compared, compared > 10000);
        end();
    }

    private static OpenDeal table(int number) {
        switch (number) {
            case 7: return new OpenDeal();
            case 8: return seated(P);
            case 9: return seated(P, 5);
            case 10: return seated(P, 5, 6, 7, 8);
            case 11: return withoutPrime();
            case 12: return playing(5, 100, 100, 3);
            case 13: return allGiven();
            case 14: return lateInRound();
            case 15: return withoutChips();
            case 16: return cleared();
            default: return inPhase(number);
        }
    }

    private static OpenDeal withoutPrime() {
        OpenDeal x = new OpenDeal();
        x.seat(5);
        x.seat(6);
        return x;
    }

    private static OpenDeal allGiven() {
        OpenDeal x = playing(30, 20);
        x.assign(0, NONE);
        x.assign(3, 1);
        giveAll(x, 0);
        giveAll(x, 3);
        return x;
    }

    private static OpenDeal lateInRound() {
        OpenDeal x = betting(100, 100, 100, 100);
        x.bet(0, 2, 20);
        x.bet(1, 1, 0);
        x.bet(2, 2, 30);
        x.bet(3, 0, 0);
        x.bet(0, 2, 1);
        return x;
    }

    private static OpenDeal withoutChips() {
        OpenDeal x = betting(10, 20);
        x.bet(0, 2, 10);
        x.bet(1, 1, 0);
        x.settle(0x10);
        showAll(x);
        return x;
    }

    private static OpenDeal cleared() {
        OpenDeal x = inPhase(4);
        x.clear();
        x.prime(P);
        x.seat(9);
        x.seat(9);
        return x;
    }

    // ---- the calls

    private static void add(String name, Function<OpenDeal, Boolean> made) {
        CALLS.add(new Call(name, false, x -> made.apply(x) ? 1L : NONE));
    }

    private static void ask(String name, Function<OpenDeal, Long> made) {
        CALLS.add(new Call(name, true, x -> {
            try {
                return made.apply(x);
            } catch (IndexOutOfBoundsException | IllegalStateException e) {
                return (long) THROWN;
            }
        }));
    }

    private static void addTableCalls() {
        for (int p : PRIMES) {
            add("prime(" + p + ")", x -> x.prime(p));
        }
        for (int chips : new int[] {Integer.MIN_VALUE, -1, 0, 1, 100001, Integer.MAX_VALUE}) {
            add("seat(" + chips + ")", x -> x.seat(chips) != NONE);
        }
        add("deal()", OpenDeal::deal);
        for (int player : PLAYERS) {
            for (int e : EXPONENTS) {
                add("seal(" + player + ", " + e + ", 8, 9)", x -> x.seal(player, e, 8, 9));
            }
            add("turn(" + player + ")", x -> x.turn(player));
            add("show(" + player + ")", x -> x.show(player));
        }
    }

    private static void addHandCalls() {
        add("round()", OpenDeal::round);
        add("settle(4660)", x -> x.settle(4660));
        for (int player : PLAYERS) {
            for (int place : PLACES) {
                add("assign(" + place + ", " + player + ")", x -> x.assign(place, player));
                add("give(" + player + ", " + place + ")", x -> x.give(player, place));
            }
            for (int kind : KINDS) {
                for (int place : PLACES) {
                    add("cheat(" + player + ", " + kind + ", " + place + ")", x -> x.cheat(player, kind, place));
                }
                for (int n : AMOUNTS) {
                    add("bet(" + player + ", " + kind + ", " + n + ")", x -> x.bet(player, kind, n));
                }
            }
        }
    }

    private static void addAskingCalls() {
        ask("audit()", x -> (long) x.audit());
        for (int place : PLACES) {
            ask("laid(" + place + ")", x -> (long) x.laid(place));
        }
        for (int player : PLAYERS) {
            ask("sealOf(" + player + ")", x -> x.sealOf(player));
            ask("state(" + player + ")", x -> (long) x.state(player));
            for (int place : PLACES) {
                ask("open(" + player + ", " + place + ")", x -> (long) x.open(player, place));
                ask("player(" + player + ", " + place + ")", x -> (long) x.player(player, place));
            }
        }
    }

    // ---- all that can be seen of a table, and of how it goes on

    private static String story(OpenDeal x) {
        StringBuilder told = new StringBuilder();
        look(x, told);
        toPlayFromAnywhere(x, told);
        for (int k = 0; k < 4; k++) {
            told.append(x.assign(k == 3 ? 51 : k, k - 1)).append(x.bet(k, 1, 0));
        }
        for (int k = 0; k < 4; k++) {
            told.append(x.give(k, 0)).append(x.give(k, 1)).append(x.give(k, 3)).append(x.give(k, 51)).append(x.bet(k, 1, 0));
        }
        told.append(x.round());
        for (int k = 0; k < 8; k++) {
            told.append(x.bet(k % 4, k == 1 ? 2 : 1, 2));
        }
        look(x, told);
        told.append(x.settle(0x1232));
        for (int k = 0; k < 4; k++) {
            told.append(x.show(k));
        }
        look(x, told);
        return told.toString();
    }

    private static void toPlayFromAnywhere(OpenDeal x, StringBuilder told) {
        told.append(x.prime(65687)).append(x.seat(7)).append(x.seat(8)).append(x.deal());
        for (int k = 0; k < 4; k++) {
            told.append(sealOne(x, k));
        }
        // Whoever is next: three times around ends both PHASES of turns.
        for (int k = 0; k < 12; k++) {
            told.append(x.turn(k % 4));
        }
    }

    private static void look(OpenDeal x, StringBuilder told) {
        for (int what = 0; what <= 4; what++) {
            told.append(x.state(what)).append(' ');
            for (int k = 0; k < 4; k++) {
                told.append(x.player(k, what)).append(' ');
            }
        }
        for (int k = 0; k < 4; k++) {
            told.append(sealOfThrows(x, k) ? "none" : x.sealOf(k)).append(' ');
            for (int place : new int[] {0, 1, 3, 51}) {
                told.append(x.open(k, place)).append(' ');
            }
        }
        boolean prime = !laidThrows(x, 0);
        for (int place = 0; prime && place < 52; place++) {
            told.append(x.laid(place)).append(' ');
        }
        told.append(auditThrows(x) ? "none" : x.audit()).append('\n');
    }
}
