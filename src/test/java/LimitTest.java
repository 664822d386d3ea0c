/** Runs that reach the limits of the journal, which needs long games. */
final class LimitTest {
    /** Seeds of long games for four players with two tiles each, up to 6 pips, with draws. */
    private static final int[] SEEDS = {35012, 11128, 22815, 38277, 53320, 20222};

    private final Checks checks;
    private final Dominofs club = new Dominofs();
    /** Tells what can be laid, so that the club itself is only asked for what it grants. */
    private final Naive naive = new Naive();

    private LimitTest(Checks checks) {
        this.checks = checks;
    }

    static void run(Checks checks) {
        new LimitTest(checks).fullJournal();
    }

    private void fullJournal() {
        both("house", 6, 4, 2, true, 'l');
        for (int game = 0; game < SEEDS.length; game++) {
            both("game", 0, SEEDS[game]);
            for (int bet = 0; bet < 10; bet++) {
                both("bet", bet % 4, game, bet % 3, 1);
            }
        }
        int game = 0;
        for (int moves = 0; naive.log.size() < 400 && moves < 400; moves++) {
            while (naive.state.games.get(game).over) {
                game++;
            }
            if (naive.log.size() == 390) {
                both("flush");
            }
            move(game);
        }
        checks.due("a full journal: the last game goes on", false, naive.state.games.get(5).over);
        checks.due("a full journal: one game is blocked", true, naive.state.games.get(0).blocked);
        both("entries");
        both("entry", 399);
        both("entry", 400);
        both("loose");
        refusals();
        both("crash");
        both("entries");
        move(5);
        both("isSound");
        both("checksum");
    }

    private void refusals() {
        due("throws IllegalStateException", "game", 0, 1);
        due("throws IllegalArgumentException", "game", 0, -1);
        for (int tile = 0; tile < 28; tile++) {
            due("throws IllegalStateException", "lay", 5, tile, true);
        }
        due("throws IllegalArgumentException", "lay", 5, 28, true);
        due("throws NoSuchElementException", "why", 0);
        due("throws IllegalStateException", "draw", 5);
        due("throws IllegalStateException", "pass", 5);
        due("throws IllegalStateException", "bet", 0, 5, 0, 1);
        due("throws IllegalArgumentException", "bet", 0, 5, 0, 0);
        due("throws IllegalStateException", "appeal", 0, 's');
        due("throws UnsupportedOperationException", "appeal", 0, 'l');
        due("throws UnsupportedOperationException", "appeal", 5, 's');
        both("checksum");
        both("entries");
    }

    private void move(int number) {
        Naive.Game game = naive.state.games.get(number);
        for (int tile : game.hands.get(game.mover).descendingSet()) {
            if (game.fits(tile, true) || game.fits(tile, false)) {
                both("lay", number, tile, game.fits(tile, true));
                return;
            }
        }
        both(game.drawable() ? "draw" : "pass", number);
    }

    private void both(String method, Object... arguments) {
        due(Checks.answer(naive, method, arguments), method, arguments);
    }

    private void due(String due, String method, Object... arguments) {
        checks.due("a full journal: " + method + java.util.Arrays.toString(arguments), due,
                Checks.answer(club, method, arguments));
    }
}
