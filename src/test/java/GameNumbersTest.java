/** The boundary cases of the number of a game, in each call that takes one. */
final class GameNumbersTest {
    /** The promise, and a call of it with '%' in the place of the game. */
    private static final String[] CALLS = {
        "4 lay(%, 0, true)", "5 draw(%)", "6 pass(%)", "7 mover(%)", "8 hand(%, 0)", "9 stock(%)", "10 end(%, true)",
        "11 line(%)", "12 sign(%, 0, false)", "13 isOver(%)", "14 isBlocked(%)", "15 winner(%)", "17 bet(0, %, 0, 1)",
        "19 pool(%)", "20 paid(%, 0)", "22 appeal(%, 's')", "23 ruling(%)",
    };
    private static final int[] FAR = {Integer.MIN_VALUE, Integer.MAX_VALUE, -2, 6, 7};
    private static final String SIX_GAMES = Plays.DRAWN_HOUSE + """
        game(0, 10) = 0; game(0, 10) = 1; game(0, 10) = 2; game(0, 10) = 3; game(0, 10) = 4; game(0, 10) = 5;
        """;

    private final Cases cases;

    private GameNumbersTest(Cases cases) {
        this.cases = cases;
    }

    static void run(Cases cases) {
        GameNumbersTest test = new GameNumbersTest(cases);
        for (String call : CALLS) {
            int middle = call.indexOf(' ');
            test.noSuchGame(Integer.parseInt(call.substring(0, middle)), call.substring(middle + 1));
        }
        test.leastAndGreatest();
    }

    private void noSuchGame(int promise, String call) {
        String piece = promise == 17 ? "Throws IndexOutOfBoundsException if there is no such better, game or player"
                : "Throws IndexOutOfBoundsException if there is no such game";
        Cases.Case each = cases.promise(promise, piece);
        String row = call + " = throws IndexOutOfBoundsException;";
        each.changesNothing("no game", Plays.DRAWN_HOUSE, Plays.put(row, 0));
        each.changesNothing("of one game, one beyond on either side", Plays.DRAWN_GAME,
            Plays.put(row, 1) + Plays.put(row, -1));
        each.changesNothing("of one game that is over, the next one", Plays.QUICK_HOUSE + Plays.blockedGame(0),
            Plays.put(row, 1));
        for (int number : FAR) {
            each.changesNothing("of six games", SIX_GAMES, Plays.put(row, number));
        }
        each.changesNothing("a game that a crash lost", Plays.DRAWN_GAME + "flush() = 1; game(0, 10) = 1; crash() = 1;",
            Plays.put(row, 1));
    }

    private void leastAndGreatest() {
        for (String call : CALLS) {
            int promise = Integer.parseInt(call.substring(0, call.indexOf(' ')));
            Cases.Case each = cases.promise(promise, "game: the number of the game");
            each.holds("the least of six", SIX_GAMES + game(0) + "mover(1) = 0; stock(5) = 2; line(5) = 0;");
            each.holds("the greatest of six", SIX_GAMES + game(5) + "mover(4) = 0; stock(0) = 2; line(0) = 0;");
        }
    }

    /** A game from its beginning to an appeal, with an answer for each call. */
    private static String game(int game) {
        return Plays.put("""
            ruling(%) = l; mover(%) = 0; hand(%, 0) = 9; hand(%, 1) = 36; stock(%) = 2; line(%) = 0; pool(%) = 0;
            isOver(%) = false; bet(0, %, 0, 1) = 1; bet(1, %, 1, 2) = 3; pool(%) = 3; paid(%, 0) = 0;
            lay(%, 0, true) = false; end(%, true) = 0; end(%, false) = 0; line(%) = 5; sign(%, 4, false) = ];
            lay(%, 2, true) = false; end(%, true) = 2; draw(%) = 4; lay(%, 4, true) = false; mover(%) = 1; draw(%) = 1;
            lay(%, 1, true) = false; stock(%) = 0; pass(%) = false; isBlocked(%) = false; pass(%) = true;
            isOver(%) = true; isBlocked(%) = true; winner(%) = 0; paid(%, 0) = 3; appeal(%, 's') = 1; winner(%) = 1;
            ruling(%) = s; paid(%, 0) = 0; paid(%, 1) = 3; hand(%, 0) = 8; hand(%, 1) = 32; line(%) = 20;
            sign(%, 1, false) = 0; sign(%, 1, true) = 0; pool(%) = 3;
            """, game);
    }
}
