/** Rows of calls that bring a club to where boundary cases begin. */
final class Plays {
    /** Two players with two of six tiles each, and draws; 2 and 4 pips are left in the end, the player 1 laid last. */
    static final String DRAWN_HOUSE = "house(2, 2, 2, true, 'l') = 0;";
    static final String DRAWN_GAME = DRAWN_HOUSE + "game(0, 10) = 0;";
    static final String DRAWN_BUT_LAST = """
        lay(0, 0, true) = false; lay(0, 2, true) = false; draw(0) = 4; lay(0, 4, true) = false; draw(0) = 1;
        lay(0, 1, true) = false; pass(0) = false;
        """;
    static final String DRAWN_PLAY = DRAWN_BUT_LAST + "pass(0) = true;";
    static final String FOUR_BETS = """
        bet(0, 0, 0, 30) = 30; bet(1, 0, 1, 20) = 50; bet(2, 0, 0, 10) = 60; bet(3, 0, 1, 7) = 67;
        """;

    /** Two players with two of six tiles each, no draws. */
    static final String QUICK_HOUSE = "house(2, 2, 2, false, 'l') = 0;";
    /** Who begins wins with the only tile. */
    static final String ONE_TILE_HOUSE = "house(2, 2, 1, true, 'l') = 0;";

    /** Ten bets on a game 0 of two players, of 1 to 10 coins, in turn on the players 0 and 1. */
    static final String TEN_BETS = """
        bet(0, 0, 0, 1) = 1; bet(1, 0, 1, 2) = 3; bet(2, 0, 0, 3) = 6; bet(3, 0, 1, 4) = 10; bet(0, 0, 0, 5) = 15;
        bet(1, 0, 1, 6) = 21; bet(2, 0, 0, 7) = 28; bet(3, 0, 1, 8) = 36; bet(0, 0, 0, 9) = 45; bet(1, 0, 1, 10) = 55;
        """;
    /** The player 0 won: 55 coins for 25 on this one, so that 2.2, 6.6, 11, 15.4 and 19.8 are due, cut. */
    static final String TEN_BETS_PAID = """
        paid(0, 0) = 2; paid(0, 1) = 0; paid(0, 2) = 6; paid(0, 3) = 0; paid(0, 4) = 11; paid(0, 5) = 0;
        paid(0, 6) = 15; paid(0, 7) = 0; paid(0, 8) = 19; paid(0, 9) = 0; club() = 2; purse(0) = 117; purse(1) = 82;
        purse(2) = 111; purse(3) = 88; paid(0, 10) = throws IndexOutOfBoundsException;
        """;

    private Plays() {
    }

    /** A game of the house 0 of QUICK_HOUSE, to be blocked. */
    static String quickGame(int game) {
        return "game(0, 22) = " + game + ";";
    }

    /** The block: 4 and 2 pips are left, so 'l' has the player 1 win, and 's' the player 0. */
    static String quickBlock(int game) {
        return put("lay(%, 3, true) = false; pass(%) = false; pass(%) = true;", game);
    }

    static String blockedGame(int game) {
        return quickGame(game) + quickBlock(game);
    }

    /** The purse 0 owes 200: what the game 0 paid was bet on the game 1 when an appeal took it back. */
    static String owing() {
        return QUICK_HOUSE + quickGame(0) + "bet(0, 0, 1, 100) = 100; bet(1, 0, 0, 100) = 200;" + quickBlock(0)
            + "purse(0) = 200;" + quickGame(1) + "bet(0, 1, 0, 200) = 200; appeal(0, 's') = 0;";
    }

    /** A game of the house 0 of ONE_TILE_HOUSE that the player 0 wins at once. */
    static String wonGame(int game) {
        return "game(0, 0) = " + game + ";" + put("lay(%, 2, true) = true;", game);
    }

    /** The rows with the number in the place of each '%'. */
    static String put(String rows, int number) {
        return rows.replace("%", String.valueOf(number));
    }

    static String times(String rows, int count) {
        return rows.repeat(count);
    }
}
