/** The boundary cases that the sentences under "Terms", and under "What it is", name. */
final class TermsTest {
    private static final int[] SIZES = {0, 0, 6, 10, 15, 21, 28};
    /** In a set up to 3 pips, three players with two tiles: seed, the tile laid, then all pass; who has won by 'l'. */
    private static final int[][] LEFT_PIPS = {
        {1490, 9, -1}, {430, 0, -1}, {719, 4, -1}, {39, 0, 0}, {86, 0, 0}, {42, 7, 0}, {2697, 7, -1}, {2093, 9, 1},
        {448, 4, 1}, {574, 4, 2}, {46, 9, 2}, {501, 7, 1}, {485, 7, 2},
    };

    private final Cases cases;

    private TermsTest(Cases cases) {
        this.cases = cases;
    }

    static void run(Cases cases) {
        TermsTest test = new TermsTest(cases);
        test.calls();
        test.payouts();
        test.sets();
        test.houses();
        test.rulings();
        test.shuffling();
        test.dealing();
        test.turns();
        test.lines();
        test.drawing();
        test.ends();
        test.bets();
        test.payments();
        test.appeals();
        test.takenBack();
        test.entries();
        test.flushes();
        test.crashes();
        test.checkpoints();
        test.checkpointNumbers();
        test.replays();
        test.exceptions();
    }

    private void calls() {
        cases.whatItIs("An object is used for at most 512 calls after it has been made").holds("512 calls",
            Plays.DRAWN_GAME + "flush() = 1;" + Plays.times("lay(0, 0, true) = false; crash() = 1;", 252)
            + "mover(0) = 0; hand(0, 0) = 9;");
    }

    private void payouts() {
        Cases.Case each = cases.terms("Each payout follows from the entries alone.");
        each.holds("a payout that a crash lost is made anew", Plays.DRAWN_GAME + Plays.FOUR_BETS
            + Plays.DRAWN_BUT_LAST + """
            flush() = 12; pass(0) = true; paid(0, 0) = 50; club() = 1; crash() = 1; paid(0, 0) = 0; club() = 0;
            purse(0) = 70; pass(0) = true; paid(0, 0) = 50; paid(0, 2) = 16; club() = 1; purse(0) = 120;
            """);
        each.holds("what a crash lost of an appeal is paid by the ruling before", Plays.DRAWN_GAME + Plays.FOUR_BETS
            + Plays.DRAWN_PLAY + """
            flush() = 13; appeal(0, 'n') = -1; club() = 67; crash() = 1; club() = 1; paid(0, 0) = 50; purse(0) = 120;
            """);
    }

    private void sets() {
        Cases.Case each = cases.terms("A set goes up to a number of pips, 2 to 6: it has each pair of numbers from 0 to"
            + " this once, numbered from 0 by their lower number, then by the higher one.");
        for (int pips = 2; pips <= 6; pips++) {
            int tile = 0;
            for (int low = 0; low <= pips; low++) {
                for (int high = low; high <= pips; high++) {
                    each.due("pips " + pips + ", tile " + tile, "[" + low + "|" + high + "]", written(pips, tile));
                    tile++;
                }
            }
            each.holds("pips " + pips + ", the tile behind the greatest one", "house(" + pips
                + ", 2, 1, true, 'l') = 0; game(0, 0) = 0;"
                + Plays.put("lay(0, %, true) = throws IllegalArgumentException;", SIZES[pips])
                + Plays.put("stock(0) = %;", SIZES[pips] - 2));
        }
    }

    /** The tile as it is written when the player 0 lays it as the first one. */
    private static String written(int pips, int tile) {
        Dominofs club = new Dominofs();
        for (int seed = 0; seed < 600; seed++) {
            if (seed % 6 == 0) {
                club = new Dominofs();
                club.house(pips, 2, 3, true, 'l');
            }
            int game = club.game(0, seed);
            if ((club.hand(game, 0) >> tile & 1) != 0) {
                club.lay(game, tile, true);
                return "[" + club.sign(game, 1, false) + "|" + club.sign(game, 3, false) + "]";
            }
        }
        return "none";
    }

    private void houses() {
        cases.terms("At most 4 houses are numbered from 0, each with a set, 2 to 4 players, how many tiles each gets,"
            + " 1 to 7, whether there are draws, and how a block is ruled").holds("four, of the least and the greatest",
            """
            house(2, 2, 1, true, 'l') = 0; house(6, 4, 7, false, 's') = 1; house(2, 4, 1, false, 'n') = 2;
            house(6, 2, 7, true, 'l') = 3; house(2, 2, 1, true, 'l') = throws IllegalStateException;
            game(0, 0) = 0; stock(0) = 4; hand(0, 0) = 4; hand(0, 1) = 16; ruling(0) = l;
            game(1, 0) = 1; stock(1) = 0; hand(1, 3) = 4587673; ruling(1) = s;
            game(2, 0) = 2; stock(2) = 2; hand(2, 3) = 32; ruling(2) = n;
            game(3, 0) = 3; stock(3) = 14; hand(3, 1) = 185147904; ruling(3) = l;
            game(4, 0) = throws IndexOutOfBoundsException;
            """);
    }

    private void rulings() {
        Cases.Case fewest = cases.terms("'l' the player with the fewest pips in hand wins, nobody if several have as"
            + " few; 's' who laid the last tile wins; 'n' nobody wins.");
        for (int[] row : LEFT_PIPS) {
            String play = "game(0, " + row[0] + ") = 0; lay(0, " + row[1] + ", true) = false; pass(0) = false;"
                + "pass(0) = false; pass(0) = true;";
            fewest.holds("'l', seed " + row[0], "house(3, 3, 2, false, 'l') = 0;" + play
                + Plays.put("winner(0) = %;", row[2]));
            fewest.holds("'s', seed " + row[0], "house(3, 3, 2, false, 's') = 0;" + play + "winner(0) = 0;");
            fewest.holds("'n', seed " + row[0], "house(3, 3, 2, false, 'n') = 0;" + play + "winner(0) = -1;");
        }
        fewest.holds("'s', the player 1 laid the last tile", "house(2, 2, 2, true, 's') = 0; game(0, 10) = 0;"
            + Plays.DRAWN_PLAY + "winner(0) = 1;");
        fewest.holds("'s', the last player laid the last tile", """
            house(4, 4, 3, false, 's') = 0; game(0, 38) = 0; lay(0, 8, true) = false; lay(0, 5, true) = false;
            lay(0, 1, true) = false; lay(0, 4, true) = false; pass(0) = false; pass(0) = false; pass(0) = false;
            pass(0) = true; winner(0) = 3;
            """);
    }

    private void shuffling() {
        Cases.Case each = cases.terms("for each place from the last one to the second one, z, the seed at first,"
            + " becomes z times 1103515245, plus 12345, modulo 2147483648");
        each.holds("the least and the greatest seed, the least set", """
            house(2, 2, 3, false, 'l') = 0; game(0, 0) = 0; hand(0, 0) = 22; hand(0, 1) = 41; game(0, 1) = 1;
            hand(1, 0) = 49; hand(1, 1) = 14; game(0, 999998) = 2; hand(2, 0) = 25; hand(2, 1) = 38;
            game(0, 999999) = 3; hand(3, 0) = 7; hand(3, 1) = 56;
            """);
        each.holds("the least and the greatest seed, sets between", """
            house(3, 2, 5, true, 'l') = 0; house(4, 3, 5, true, 'l') = 1; house(5, 3, 7, true, 'l') = 2;
            game(0, 0) = 0; hand(0, 0) = 358; hand(0, 1) = 665; game(0, 999999) = 1; hand(1, 0) = 527; hand(1, 1) = 496;
            game(1, 0) = 2; hand(2, 0) = 11276; hand(2, 1) = 5024; hand(2, 2) = 16467;
            game(1, 999999) = 3; hand(3, 0) = 20547; hand(3, 1) = 1804; hand(3, 2) = 10416;
            game(2, 0) = 4; hand(4, 0) = 1638968; hand(4, 1) = 22726; hand(4, 2) = 435457;
            game(2, 999999) = 5; hand(5, 0) = 659545; hand(5, 1) = 1083142; hand(5, 2) = 354464;
            """);
        each.holds("the least and the greatest seed, the greatest set", """
            house(6, 4, 7, false, 'l') = 0; game(0, 0) = 0; hand(0, 0) = 11584576; hand(0, 1) = 185147904;
            hand(0, 2) = 67115302; hand(0, 3) = 4587673; game(0, 1) = 1; hand(1, 0) = 409660; hand(1, 1) = 207620864;
            hand(1, 2) = 8466499; hand(1, 3) = 51938432; game(0, 999998) = 2; hand(2, 0) = 218380288;
            hand(2, 1) = 45220100; hand(2, 2) = 4211755; hand(2, 3) = 623312; game(0, 999999) = 3;
            hand(3, 0) = 61350912; hand(3, 1) = 135292; hand(3, 2) = 1344385; hand(3, 3) = 205604866;
            """);
    }

    private void dealing() {
        Cases.Case each = cases.terms("Then the player 0 gets the first tiles, the player 1 the next ones, and so on;"
            + " the rest is the stock.");
        each.holds("nothing is left for the stock", """
            house(2, 2, 3, true, 'l') = 0; house(2, 3, 2, true, 'l') = 1; house(6, 4, 7, true, 'l') = 2;
            game(0, 0) = 0; stock(0) = 0; game(1, 0) = 1; stock(1) = 0; game(2, 0) = 2; stock(2) = 0;
            """);
        each.holds("one tile is left for the stock", """
            house(3, 3, 3, true, 'l') = 0; house(4, 2, 7, true, 'l') = 1; game(0, 0) = 0; stock(0) = 1; game(1, 0) = 1;
            stock(1) = 1;
            """);
        each.holds("the greatest stock", "house(6, 2, 1, true, 'l') = 0; game(0, 999999) = 0; stock(0) = 26;");
        each.holds("the same shuffled tiles, for fewer players", """
            house(6, 4, 7, false, 'l') = 0; house(6, 2, 7, false, 'l') = 1; game(0, 1) = 0; game(1, 1) = 1;
            hand(0, 0) = 409660; hand(1, 0) = 409660; hand(0, 1) = 207620864; hand(1, 1) = 207620864;
            hand(1, 2) = throws IndexOutOfBoundsException; stock(1) = 14;
            """);
    }

    private void turns() {
        Cases.Case each = cases.terms("The player 0 begins, players move in turn.");
        each.holds("two players", Plays.QUICK_HOUSE + Plays.quickGame(0) + """
            mover(0) = 0; lay(0, 3, true) = false; mover(0) = 1; pass(0) = false; mover(0) = 0;
            """);
        each.holds("three players", """
            house(3, 3, 2, false, 'l') = 0; game(0, 0) = 0; mover(0) = 0; lay(0, 5, true) = false; mover(0) = 1;
            lay(0, 1, true) = false; mover(0) = 2; lay(0, 2, false) = false; mover(0) = 0; pass(0) = false;
            mover(0) = 1; pass(0) = false; mover(0) = 2;
            """);
        each.holds("four players", """
            house(6, 4, 3, false, 'l') = 0; game(0, 268) = 0; mover(0) = 0; lay(0, 0, true) = false; mover(0) = 1;
            pass(0) = false; mover(0) = 2; pass(0) = false; mover(0) = 3; pass(0) = false; mover(0) = 0;
            lay(0, 1, true) = false; mover(0) = 1;
            """);
    }

    private void lines() {
        Cases.Case first = cases.terms("The first tile makes the line, its lower number to the left; each next one is"
            + " laid at its left or its right end, with a number that is alike there, turned as it must be.");
        first.holds("the first tile, at the left", """
            house(2, 2, 3, false, 'l') = 0; game(0, 1) = 0; lay(0, 4, true) = false; end(0, true) = 1;
            end(0, false) = 2;
            """);
        first.holds("the first tile, at the right", """
            house(2, 2, 3, false, 'l') = 0; game(0, 1) = 0; lay(0, 4, false) = false; end(0, true) = 1;
            end(0, false) = 2;
            """);
        first.holds("at the left, the higher number alike", """
            house(2, 2, 3, false, 'l') = 0; game(0, 1) = 0; lay(0, 4, true) = false; lay(0, 1, true) = false;
            sign(0, 1, false) = 0; sign(0, 3, false) = 1; sign(0, 6, false) = 1; sign(0, 8, false) = 2;
            end(0, true) = 0;
            end(0, false) = 2;
            """);
        first.holds("at the left, the lower number alike", """
            house(2, 2, 3, false, 'l') = 0; game(0, 1) = 0; lay(0, 0, true) = false; lay(0, 1, true) = false;
            sign(0, 1, false) = 1; sign(0, 3, false) = 0; sign(0, 6, false) = 0; sign(0, 8, false) = 0;
            end(0, true) = 1;
            end(0, false) = 0;
            """);
        first.holds("at the right, the higher number alike", """
            house(2, 2, 3, false, 'l') = 0; game(0, 1) = 0; lay(0, 4, true) = false; lay(0, 2, false) = false;
            sign(0, 1, false) = 1; sign(0, 3, false) = 2; sign(0, 6, false) = 2; sign(0, 8, false) = 0;
            end(0, true) = 1;
            end(0, false) = 0;
            """);
        first.holds("at the right, the lower number alike", """
            house(2, 2, 3, false, 'l') = 0; game(0, 1) = 0; lay(0, 0, true) = false; lay(0, 1, false) = false;
            sign(0, 1, false) = 0; sign(0, 3, false) = 0; sign(0, 6, false) = 0; sign(0, 8, false) = 1;
            end(0, true) = 0;
            end(0, false) = 1;
            """);
        first.holds("both numbers alike, at the left and at the right", """
            house(2, 2, 3, false, 'l') = 0; game(0, 1) = 0; lay(0, 4, true) = false; lay(0, 3, true) = false;
            sign(0, 1, false) = 1; sign(0, 3, false) = 1; sign(0, 6, false) = 1; end(0, true) = 1; end(0, false) = 2;
            lay(0, 5, false) = false; sign(0, 8, false) = 2; sign(0, 11, false) = 2; sign(0, 13, false) = 2;
            end(0, true) = 1; end(0, false) = 2;
            """);
    }

    private void drawing() {
        Cases.Case each = cases.terms("Who cannot lay any tile draws the first tile of the stock, if there are draws"
            + " and the stock has one, and goes on; otherwise this one passes.");
        each.holds("a tile fits at the left end alone", """
            house(2, 2, 2, true, 'l') = 0; house(2, 2, 2, false, 'l') = 1; game(0, 4) = 0; lay(0, 2, true) = false;
            hand(0, 1) = 9; draw(0) = throws UnsupportedOperationException; lay(0, 0, true) = false;
            game(1, 4) = 1; lay(1, 2, true) = false; pass(1) = throws UnsupportedOperationException;
            """);
        each.holds("a tile fits at the right end alone", """
            house(2, 2, 2, true, 'l') = 0; house(2, 2, 2, false, 'l') = 1; game(0, 2) = 0; lay(0, 1, true) = false;
            hand(0, 1) = 24; draw(0) = throws UnsupportedOperationException; lay(0, 4, false) = false;
            game(1, 2) = 1; lay(1, 1, true) = false; pass(1) = throws UnsupportedOperationException;
            """);
        each.holds("no tile lies, so that each tile fits", Plays.DRAWN_GAME + """
            draw(0) = throws UnsupportedOperationException; pass(0) = throws UnsupportedOperationException;
            """);
        each.holds("the last tile of the stock", Plays.DRAWN_GAME + """
            lay(0, 0, true) = false; lay(0, 2, true) = false; pass(0) = throws UnsupportedOperationException;
            draw(0) = 4; stock(0) = 1; lay(0, 4, true) = false; pass(0) = throws UnsupportedOperationException;
            draw(0) = 1; stock(0) = 0; lay(0, 1, true) = false; draw(0) = throws UnsupportedOperationException;
            pass(0) = false;
            """);
        each.holds("two tiles one behind the other, in their order", """
            house(2, 2, 2, true, 'l') = 0; game(0, 2) = 0; lay(0, 0, true) = false; draw(0) = 5;
            pass(0) = throws UnsupportedOperationException; draw(0) = 2; lay(0, 2, false) = false;
            """);
        each.holds("there are no draws", Plays.QUICK_HOUSE + Plays.quickGame(0) + """
            lay(0, 3, true) = false; stock(0) = 2; draw(0) = throws UnsupportedOperationException; pass(0) = false;
            stock(0) = 2;
            """);
        each.holds("there are draws, but never was a stock", """
            house(2, 2, 3, true, 'l') = 0; game(0, 11) = 0; lay(0, 0, true) = false; stock(0) = 0;
            draw(0) = throws UnsupportedOperationException; pass(0) = false;
            """);
        cases.terms("A player moves by laying or passing, not by drawing.").holds("the mover stays", Plays.DRAWN_GAME
            + """
            lay(0, 0, true) = false; lay(0, 2, true) = false; mover(0) = 0; draw(0) = 4; mover(0) = 0;
            lay(0, 4, true) = false; mover(0) = 1; draw(0) = 1; mover(0) = 1; lay(0, 1, true) = false; mover(0) = 0;
            pass(0) = false; mover(0) = 1;
            """);
    }

    private void ends() {
        Cases.Case each = cases.terms("A game is over when a player has no tile, who has won, or when all players"
            + " passed one behind the other: it is blocked, and ruled.");
        each.holds("no tile, by the first tile laid", Plays.ONE_TILE_HOUSE + Plays.wonGame(0)
            + "isOver(0) = true; isBlocked(0) = false; winner(0) = 0; hand(0, 0) = 0; hand(0, 1) = 16;");
        each.holds("one tile is left", """
            house(2, 2, 2, false, 'n') = 0; game(0, 6) = 0; lay(0, 1, true) = false; isOver(0) = false;
            lay(0, 4, false) = false; isOver(0) = false; pass(0) = false; lay(0, 5, false) = true; isOver(0) = true;
            isBlocked(0) = false; winner(0) = 1;
            """);
        each.holds("all passed but one", Plays.QUICK_HOUSE + Plays.quickGame(0) + """
            lay(0, 3, true) = false; pass(0) = false; isOver(0) = false; isBlocked(0) = false; pass(0) = true;
            isOver(0) = true; isBlocked(0) = true; winner(0) = 1;
            """);
        each.holds("two players, one passed, then a tile was laid", """
            house(4, 2, 3, false, 'l') = 0; game(0, 116) = 0; lay(0, 12, true) = false; pass(0) = false;
            lay(0, 13, true) = false; pass(0) = false; isOver(0) = false; pass(0) = true; isBlocked(0) = true;
            """);
        each.holds("three players, two passed, then a tile was laid", """
            house(6, 3, 4, false, 'l') = 0; game(0, 268) = 0; lay(0, 0, true) = false; pass(0) = false; pass(0) = false;
            lay(0, 1, true) = false; pass(0) = false; isOver(0) = false; pass(0) = false; isOver(0) = false;
            pass(0) = true; isBlocked(0) = true;
            """);
        each.holds("four players, three passed, then a tile was laid", """
            house(6, 4, 3, false, 'l') = 0; game(0, 268) = 0; lay(0, 0, true) = false; pass(0) = false; pass(0) = false;
            pass(0) = false; lay(0, 1, true) = false; pass(0) = false; isOver(0) = false; pass(0) = false;
            isOver(0) = false; pass(0) = false; isOver(0) = false; isBlocked(0) = false; pass(0) = true;
            isOver(0) = true; isBlocked(0) = true;
            """);
        cases.terms("At most 6 games are numbered from 0, each of a house.").holds("six, and one more", """
            house(2, 2, 1, true, 'l') = 0; house(2, 2, 1, true, 'n') = 1; game(0, 0) = 0; game(1, 0) = 1;
            game(0, 0) = 2;
            game(1, 0) = 3; game(0, 0) = 4; game(1, 0) = 5; game(0, 0) = throws IllegalStateException; ruling(0) = l;
            ruling(5) = n; ruling(6) = throws IndexOutOfBoundsException;
            """);
    }

    private void bets() {
        cases.terms("There are 4 betters, 0 to 3, each with a purse of 100 at first, perhaps below 0 later.")
            .holds("no more and no fewer", """
                purse(0) = 100; purse(1) = 100; purse(2) = 100; purse(3) = 100; meanPurse() = 100.0;
                purse(4) = throws IndexOutOfBoundsException; purse(-1) = throws IndexOutOfBoundsException;
                """)
            .holds("below 0", Plays.owing() + "purse(0) = -200; purse(1) = 200; bet(0, 1, 0, 1) = throws"
                + " IllegalArgumentException; checkpoint() = throws UnsupportedOperationException;");
        Cases.Case each = cases.terms("A bet is on a player of a game that is not over, for at least 1 coin, at most as"
            + " many as the purse has; the coins are paid at once, into the pool of the game, which has at most 10"
            + " bets.");
        each.holds("1 coin, and none", Plays.DRAWN_GAME + """
            bet(0, 0, 0, 0) = throws IllegalArgumentException; bet(0, 0, 0, 1) = 1; purse(0) = 99; pool(0) = 1;
            """);
        each.holds("as many as the purse has, and one more", Plays.DRAWN_GAME + """
            bet(0, 0, 0, 101) = throws IllegalArgumentException; bet(0, 0, 0, 100) = 100; purse(0) = 0;
            bet(0, 0, 0, 1) = throws IllegalArgumentException; bet(1, 0, 1, 99) = 199;
            bet(1, 0, 1, 2) = throws IllegalArgumentException; bet(1, 0, 1, 1) = 200; purse(1) = 0;
            """);
        each.holds("10 bets, and one more", Plays.DRAWN_GAME + Plays.TEN_BETS + """
            bet(0, 0, 0, 1) = throws IllegalStateException; pool(0) = 55; paid(0, 9) = 0;
            paid(0, 10) = throws IndexOutOfBoundsException; game(0, 10) = 1; bet(0, 1, 0, 1) = 1;
            """);
        each.holds("10 bets that a crash lost leave room", Plays.DRAWN_GAME + "flush() = 1;" + Plays.TEN_BETS
            + "crash() = 10;" + Plays.TEN_BETS + "bet(0, 0, 0, 1) = throws IllegalStateException;");
        each.holds("just before the end, and behind it", Plays.DRAWN_GAME + Plays.DRAWN_BUT_LAST + """
            bet(0, 0, 0, 1) = 1; pass(0) = true; bet(0, 0, 0, 1) = throws IllegalStateException;
            """);
    }

    private void payments() {
        Cases.Case each = cases.terms("As the game is over, each bet on who won gets the pool times its coins, divided"
            + " by the coins of all bets on who won, cut; what is left, or all of it if nobody bet on who won, or"
            + " nobody won, is the club's, 0 at first.");
        each.holds("cut, something is left", won("bet(0, %, 0, 3) = 3; bet(1, %, 0, 3) = 6; bet(2, %, 0, 1) = 7;"
            + "bet(3, %, 1, 3) = 10;") + """
            paid(0, 0) = 4; paid(0, 1) = 4; paid(0, 2) = 1; paid(0, 3) = 0; club() = 1; purse(0) = 101; purse(1) = 101;
            purse(2) = 100; purse(3) = 97;
            """);
        each.holds("nothing is left", won("bet(0, %, 0, 1) = 1; bet(1, %, 0, 3) = 4; bet(2, %, 1, 8) = 12;") + """
            paid(0, 0) = 3; paid(0, 1) = 9; paid(0, 2) = 0; club() = 0; purse(0) = 102; purse(1) = 106; purse(2) = 92;
            """);
        each.holds("one coin gets it all",
            won("bet(0, %, 1, 100) = 100; bet(1, %, 1, 100) = 200; bet(2, %, 0, 1) = 201;")
            + "paid(0, 2) = 201; purse(2) = 300; club() = 0;");
        each.holds("all bet on who won", won("bet(0, %, 0, 100) = 100; bet(1, %, 0, 7) = 107;")
            + "paid(0, 0) = 100; paid(0, 1) = 7; purse(0) = 100; purse(1) = 100; club() = 0;");
        each.holds("nobody bet on who won", won("bet(0, %, 1, 100) = 100; bet(1, %, 1, 7) = 107;")
            + "paid(0, 0) = 0; paid(0, 1) = 0; purse(0) = 0; purse(1) = 93; club() = 107; pool(0) = 107;");
        each.holds("no bet", won("") + "club() = 0; pool(0) = 0; paid(0, 0) = throws IndexOutOfBoundsException;");
        each.holds("nobody won, by 'n'", "house(2, 2, 2, false, 'n') = 0;" + Plays.quickGame(0)
            + "bet(0, 0, 0, 5) = 5; bet(0, 0, 1, 6) = 11;" + Plays.quickBlock(0)
            + "winner(0) = -1; paid(0, 0) = 0; paid(0, 1) = 0; club() = 11; purse(0) = 89;");
        each.holds("nobody won, by 'l'", """
            house(3, 2, 2, false, 'l') = 0; game(0, 58) = 0; bet(0, 0, 0, 5) = 5; bet(0, 0, 1, 6) = 11;
            lay(0, 7, true) = false; pass(0) = false; pass(0) = true; winner(0) = -1; paid(0, 0) = 0; paid(0, 1) = 0;
            club() = 11; purse(0) = 89;
            """);
        each.holds("10 bets", Plays.ONE_TILE_HOUSE + "game(0, 0) = 0;" + Plays.TEN_BETS + "lay(0, 2, true) = true;"
            + Plays.TEN_BETS_PAID);
    }

    /** A game that the player 0 wins, behind these bets. */
    private static String won(String bets) {
        return Plays.ONE_TILE_HOUSE + "game(0, 0) = 0;" + Plays.put(bets, 0) + "lay(0, 2, true) = true;";
    }

    private void appeals() {
        Cases.Case each = cases.terms("A game that is blocked can be ruled another way, by one of the three rulings"
            + " that is not the one in force, at most 2 times, and not behind a checkpoint made since its end.");
        String blocked = Plays.QUICK_HOUSE + Plays.blockedGame(0);
        each.holds("the two that are not in force", blocked + """
            appeal(0, 'l') = throws UnsupportedOperationException; appeal(0, 's') = 0; winner(0) = 0;
            """);
        each.holds("the other one", blocked + "appeal(0, 'n') = -1; winner(0) = -1;");
        each.holds("2 times, and once more", blocked + """
            appeal(0, 's') = 0; appeal(0, 's') = throws UnsupportedOperationException; appeal(0, 'l') = 1;
            appeal(0, 'n') = throws UnsupportedOperationException;
            appeal(0, 's') = throws UnsupportedOperationException;
            ruling(0) = l; winner(0) = 1; entries() = 6;
            """);
        each.holds("2 times for each game", blocked + Plays.blockedGame(1) + """
            appeal(0, 's') = 0; appeal(1, 's') = 0; appeal(0, 'n') = -1; appeal(1, 'n') = -1;
            appeal(0, 's') = throws UnsupportedOperationException;
            appeal(1, 's') = throws UnsupportedOperationException;
            """);
        each.holds("it was won, not blocked", Plays.ONE_TILE_HOUSE + Plays.wonGame(0) + """
            appeal(0, 's') = throws UnsupportedOperationException;
            appeal(0, 'n') = throws UnsupportedOperationException;
            """);
        each.holds("a checkpoint just before the end", Plays.QUICK_HOUSE + Plays.quickGame(0) + """
            lay(0, 3, true) = false; pass(0) = false; checkpoint() = 0; pass(0) = true; appeal(0, 's') = 0;
            appeal(0, 'n') = -1;
            """);
        each.holds("a checkpoint just behind the end", blocked + """
            checkpoint() = 0; appeal(0, 's') = throws IllegalStateException; appeal(0, 'n') = throws
            IllegalStateException;
            """);
        each.holds("a checkpoint between two appeals", blocked + """
            appeal(0, 's') = 0; checkpoint() = 0; appeal(0, 'n') = throws IllegalStateException; ruling(0) = s;
            """);
    }

    private void takenBack() {
        Cases.Case each = cases.terms("What was paid for it is taken back, from the club, too, and paid anew.");
        each.holds("all of it from the club", "house(2, 2, 2, true, 'n') = 0; game(0, 10) = 0;" + Plays.FOUR_BETS
            + Plays.DRAWN_PLAY + """
            club() = 67; purse(0) = 70; appeal(0, 'l') = 0; club() = 1; paid(0, 0) = 50; paid(0, 2) = 16;
            purse(0) = 120;
            purse(1) = 80; purse(2) = 106; purse(3) = 93; appeal(0, 's') = 1; club() = 1; paid(0, 0) = 0;
            paid(0, 1) = 49; paid(0, 2) = 0; paid(0, 3) = 17; purse(0) = 70; purse(1) = 129; purse(2) = 90;
            purse(3) = 110;
            """);
        each.holds("nobody was paid, as there were no bets", Plays.QUICK_HOUSE + Plays.blockedGame(0)
            + "appeal(0, 's') = 0; club() = 0; meanPurse() = 100.0;");
        each.holds("in a place where a game with more bets was that was lost", Plays.QUICK_HOUSE + Plays.quickGame(0)
            + "bet(0, 0, 1, 5) = 5; bet(1, 0, 1, 6) = 11;" + Plays.quickBlock(0) + "paid(0, 1) = 6; crash() = 6;"
            + Plays.quickGame(0) + "bet(0, 0, 1, 5) = 5;" + Plays.quickBlock(0) + """
            appeal(0, 's') = 0; club() = 5; appeal(0, 'l') = 1; club() = 0; purse(0) = 100; purse(1) = 100;
            """);
        each.holds("only what was paid for this game", Plays.QUICK_HOUSE + Plays.quickGame(0)
            + "bet(0, 0, 0, 9) = 9;" + Plays.quickBlock(0) + Plays.quickGame(1) + "bet(1, 1, 0, 5) = 5;"
            + Plays.quickBlock(1) + "club() = 14; appeal(1, 's') = 0; club() = 9; paid(1, 0) = 5; paid(0, 0) = 0;"
            + "purse(0) = 91; purse(1) = 100;");
    }

    private void entries() {
        Cases.Case each = cases.terms("Each game begun, tile laid, drawing, passing, bet and appeal is an entry, at"
            + " most 400, numbered from 0 as they come.");
        each.holds("one of each, and nothing else", "entries() = 0;" + Plays.DRAWN_HOUSE + """
            entries() = 0; game(0, 10) = 0; entries() = 1; bet(0, 0, 0, 5) = 5; entries() = 2;
            """ + Plays.DRAWN_PLAY + """
            entries() = 10; appeal(0, 's') = 1; entries() = 11; flush() = 11; checkpoint() = 0; crash() = 0;
            lay(0, 5, true) = throws IllegalStateException; entries() = 11; entry(0) = g; entry(1) = b; entry(2) = t;
            entry(3) = t; entry(4) = d; entry(5) = t; entry(6) = d; entry(7) = t; entry(8) = p; entry(9) = p;
            entry(10) = a; entry(11) = throws NoSuchElementException;
            """);
        each.holds("400 of them, and one more", FullJournal.of(399) + """
            entries() = 399; entry(399) = throws NoSuchElementException; bet(0, 4, 0, 1) = 10; entries() = 400;
            entry(399) = b; gameOf(399) = 4; entry(400) = throws NoSuchElementException;
            game(0, 0) = throws IllegalStateException; entries() = 400;
            """);
    }

    private void flushes() {
        Cases.Case each = cases.terms("Entries are loose until they are flushed.");
        each.holds("none", "loose() = 0; flush() = 0; loose() = 0;");
        each.holds("by flush and by checkpoint", Plays.DRAWN_GAME + """
            loose() = 1; flush() = 1; loose() = 0; flush() = 0; lay(0, 0, true) = false; loose() = 1; checkpoint() = 0;
            loose() = 0; flush() = 0;
            """);
        each.holds("all 400", FullJournal.of(400) + "loose() = 400; flush() = 400; loose() = 0; crash() = 0;");
    }

    private void crashes() {
        Cases.Case each = cases.terms("A crash loses all loose ones: all is then as the others tell, from nothing.");
        each.holds("none", "crash() = 0;" + Plays.DRAWN_GAME
            + "flush() = 1; crash() = 0; entries() = 1; stock(0) = 2;");
        each.holds("all", Plays.DRAWN_GAME + Plays.FOUR_BETS + Plays.DRAWN_PLAY + """
            crash() = 13; entries() = 0; loose() = 0; club() = 0; purse(0) = 100; purse(1) = 100; purse(2) = 100;
            purse(3) = 100; isOver(0) = throws IndexOutOfBoundsException; checksum() = 295834457; game(0, 10) = 0;
            hand(0, 0) = 9; stock(0) = 2; line(0) = 0; pool(0) = 0; isOver(0) = false; ruling(0) = l;
            paid(0, 0) = throws IndexOutOfBoundsException;
            """);
        each.holds("all 400", FullJournal.of(400) + """
            crash() = 400; entries() = 0; checksum() = 295834457; game(3, 10) = 0; entries() = 1;
            """);
        each.holds("the last of 400", FullJournal.of(399) + """
            flush() = 399; bet(0, 4, 0, 1) = 10; crash() = 1; entries() = 399; bet(0, 4, 0, 2) = 11;
            bet(0, 4, 0, 1) = throws IllegalStateException;
            """);
    }

    private void checkpoints() {
        Cases.Case each = cases.terms("A checkpoint keeps all games, purses and the club as they are, and flushes"
            + " first; it is refused as long as there are bets on a game that is not over.");
        each.holds("of nothing", "checkpoint() = 0; behind(0) = 0; replay(0) = 295834457;");
        each.holds("it flushes", Plays.DRAWN_GAME
            + "loose() = 1; checkpoint() = 0; loose() = 0; crash() = 0; stock(0) = 2;");
        each.holds("one bet, until the game is over", Plays.DRAWN_GAME + "bet(3, 0, 1, 1) = 1;" + """
            checkpoint() = throws UnsupportedOperationException; loose() = 2;
            """ + Plays.DRAWN_BUT_LAST + """
            checkpoint() = throws UnsupportedOperationException; pass(0) = true; checkpoint() = 0; loose() = 0;
            """);
        each.holds("one bet, until a crash loses it", Plays.DRAWN_GAME + """
            flush() = 1; bet(3, 0, 1, 1) = 1; checkpoint() = throws UnsupportedOperationException; crash() = 1;
            checkpoint() = 0;
            """);
        each.holds("bets, until a crash loses their game", Plays.DRAWN_GAME + """
            flush() = 1; game(0, 10) = 1; bet(3, 1, 1, 1) = 1; bet(2, 1, 0, 100) = 101;
            checkpoint() = throws UnsupportedOperationException; crash() = 3; checkpoint() = 0; behind(0) = 0;
            """);
        each.holds("games without bets that are not over", Plays.DRAWN_GAME + "game(0, 1) = 1; checkpoint() = 0;");
        each.holds("a bet on the last of six games", Plays.ONE_TILE_HOUSE + Plays.wonGame(0) + Plays.wonGame(1)
            + Plays.wonGame(2) + Plays.wonGame(3) + Plays.wonGame(4) + """
            game(0, 0) = 5; bet(0, 5, 0, 1) = 1; checkpoint() = throws UnsupportedOperationException;
            lay(5, 2, true) = true; checkpoint() = 0;
            """);
        each.holds("bets in a game that an appeal ruled another way", Plays.QUICK_HOUSE + Plays.quickGame(0)
            + "bet(0, 0, 1, 10) = 10;" + Plays.quickBlock(0) + "appeal(0, 's') = 0; checkpoint() = 0; club() = 10;");
    }

    private void checkpointNumbers() {
        Cases.Case each = cases.terms("At most 5 checkpoints are numbered from 0, a crash keeps them.");
        each.holds("five, and one more", """
            checkpoint() = 0; checkpoint() = 1; checkpoint() = 2; checkpoint() = 3; checkpoint() = 4;
            checkpoint() = throws IllegalStateException; behind(4) = 0; behind(5) = throws IndexOutOfBoundsException;
            """);
        each.holds("a crash", Plays.DRAWN_GAME + """
            checkpoint() = 0; lay(0, 0, true) = false; checkpoint() = 1; lay(0, 2, true) = false; crash() = 1;
            behind(0) = 1; behind(1) = 0; behind(2) = throws IndexOutOfBoundsException; checkpoint() = 2;
            checkpoint() = 3; checkpoint() = 4; crash() = 0; checkpoint() = throws IllegalStateException; behind(4) = 0;
            """);
    }

    private void replays() {
        Cases.Case each = cases.terms("To replay from a checkpoint, or from nothing, is to do all entries that came"
            + " behind it on what it keeps, and changes nothing.");
        each.holds("no entries at all", "replay(-1) = 295834457; checkpoint() = 0; replay(0) = 295834457;");
        String games = Plays.QUICK_HOUSE + Plays.quickGame(0) + "bet(0, 0, 1, 30) = 30; bet(1, 0, 0, 9) = 39;"
            + Plays.quickBlock(0) + "checkpoint() = 0;" + Plays.quickGame(1)
            + "lay(1, 3, true) = false; checkpoint() = 1; bet(2, 1, 0, 7) = 7; flush() = 1;"
            + "pass(1) = false; pass(1) = true; appeal(1, 's') = 0;";
        each.changesNothing("from nothing and from each", games, """
            replay(-1) = 6506987782095583990; replay(0) = 6506987782095583990; replay(1) = 6506987782095583990;
            replay(2) = throws IndexOutOfBoundsException;
            """);
        each.changesNothing("400 entries behind it", "checkpoint() = 0;" + FullJournal.of(400), """
            replay(0) = 277265121507740628; replay(-1) = 277265121507740628;
            """);
    }

    private void exceptions() {
        String setup = Plays.QUICK_HOUSE + Plays.quickGame(0) + """
            bet(0, 0, 0, 5) = 5; bet(1, 0, 1, 5) = 10; lay(0, 0, true) = throws UnsupportedOperationException;
            flush() = 3;
            lay(0, 3, true) = false;
            """;
        cases.terms("A method that throws an exception changes nothing, but why tells of refused tiles.")
            .changesNothing("one of each", setup, """
                house(1, 2, 1, true, 'l') = throws IllegalArgumentException; game(1, 0) = throws
                IndexOutOfBoundsException; game(0, -1) = throws IllegalArgumentException; lay(1, 0, true) = throws
                IndexOutOfBoundsException; lay(0, 6, true) = throws IllegalArgumentException; lay(0, 1, true) = throws
                UnsupportedOperationException; lay(0, 0, true) = throws UnsupportedOperationException;
                draw(0) = throws UnsupportedOperationException; draw(1) = throws IndexOutOfBoundsException;
                mover(1) = throws IndexOutOfBoundsException; hand(0, 2) = throws IndexOutOfBoundsException;
                winner(0) = throws NoSuchElementException; why(1) = throws NoSuchElementException;
                bet(0, 0, 0, 96) = throws IllegalArgumentException; bet(4, 0, 0, 1) = throws IndexOutOfBoundsException;
                appeal(0, 's') = throws UnsupportedOperationException; checkpoint() = throws
                UnsupportedOperationException; behind(0) = throws IndexOutOfBoundsException; replay(0) = throws
                IndexOutOfBoundsException; entry(4) = throws NoSuchElementException;
                """)
            .holds("why tells of a tile that does not fit", setup + """
                why(0) = h; lay(0, 0, true) = throws UnsupportedOperationException; why(0) = f; why(1) = 1;
                mover(0) = 1;
                """);
        cases.terms("If several exceptions apply, the one that is listed first is thrown.").holds("one of each", """
            house(2, 2, 1, true, 'l') = 0; house(2, 2, 1, true, 'l') = 1; house(2, 2, 1, true, 'l') = 2;
            house(2, 2, 1, true, 'l') = 3; house(1, 1, 0, true, 'x') = throws IllegalArgumentException;
            game(4, -1) = throws IndexOutOfBoundsException; lay(0, -1, true) = throws IndexOutOfBoundsException;
            game(0, 0) = 0; lay(0, 2, true) = true; lay(0, 6, true) = throws IllegalArgumentException;
            lay(0, 0, true) = throws IllegalStateException; why(0) = throws NoSuchElementException;
            draw(0) = throws IllegalStateException; pass(0) = throws IllegalStateException;
            bet(0, 0, 2, 0) = throws IndexOutOfBoundsException; bet(0, 0, 1, 0) = throws IllegalArgumentException;
            appeal(1, 'x') = throws IndexOutOfBoundsException; appeal(0, 'x') = throws IllegalArgumentException;
            checkpoint() = 0; appeal(0, 's') = throws UnsupportedOperationException;
            """);
    }
}
