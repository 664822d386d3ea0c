import java.util.HashMap;
import java.util.Map;

/**
 * Rows that fill a journal: five games that go on as long as they can, with ten bets each, the last with fewer. The
 * houses are 0 and 1; the house 2 is that of Plays.QUICK_HOUSE, the house 3 that of Plays.DRAWN_HOUSE, for a sixth
 * game.
 */
final class FullJournal {
    private static final int LONG_GAMES = 5;
    private static final int[] HOUSES = {0, 1, 0, 0, 1};
    private static final int[] SEEDS = {451786, 509511, 296663, 339844, 130537};
    private static final int MOST_BETS = 10;
    private static final Map<String, String> MADE = new HashMap<>();

    private final Naive naive = new Naive();
    private final StringBuilder rows = new StringBuilder();

    private FullJournal() {
    }

    /** Rows that make so many entries, of five games; the last of them has nine bets, and is not over. */
    static String of(int entries) {
        return of(entries, MOST_BETS - 1);
    }

    /** Rows that make 400 entries of five games that are over. */
    static String ofGamesThatAreOver() {
        return of(400, 5);
    }

    private static String of(int entries, int lastBets) {
        return MADE.computeIfAbsent(entries + " " + lastBets, key -> new FullJournal().make(entries, lastBets));
    }

    private String make(int entries, int lastBets) {
        add("house(6, 3, 2, true, 'l')");
        add("house(6, 4, 2, true, 'l')");
        add("house(2, 2, 2, false, 'l')");
        add("house(2, 2, 2, true, 'l')");
        for (int game = 0; game < LONG_GAMES; game++) {
            add("game(" + HOUSES[game] + ", " + SEEDS[game] + ")");
            for (int bet = 0; bet < (game == LONG_GAMES - 1 ? lastBets : MOST_BETS); bet++) {
                add("bet(" + bet % 4 + ", " + game + ", " + bet % 3 + ", 1)");
            }
        }
        int game = 0;
        while (game < LONG_GAMES && naive.log.size() < entries) {
            if (naive.state.games.get(game).over) {
                game++;
            } else {
                move(game);
            }
        }
        return rows.toString();
    }

    private void move(int number) {
        Naive.Game game = naive.state.games.get(number);
        for (int tile : game.hands.get(game.mover).descendingSet()) {
            if (game.fits(tile, true) || game.fits(tile, false)) {
                add("lay(" + number + ", " + tile + ", " + game.fits(tile, true) + ")");
                return;
            }
        }
        add((game.drawable() ? "draw(" : "pass(") + number + ")");
    }

    private void add(String call) {
        rows.append(call).append(" = ").append(Rows.ask(naive, call)).append(";");
    }
}
