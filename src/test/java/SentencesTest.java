import java.util.TreeSet;

/** Ordinary cases of sentences that name no boundary: what a call does, and what its answer is. */
final class SentencesTest {
    /** [0|1][1|2][2|0][0|0] lies, the tiles 3 and 5 are left in the hands. */
    private static final String FOUR_TILES = Plays.DRAWN_GAME + Plays.DRAWN_PLAY;
    private static final String TWO_GAMES = Plays.DRAWN_GAME + "game(0, 4) = 1; lay(1, 2, true) = false;";
    private static final String BLOCKED = Plays.QUICK_HOUSE + Plays.blockedGame(0);

    private final Cases cases;

    private SentencesTest(Cases cases) {
        this.cases = cases;
    }

    static void run(Cases cases) {
        SentencesTest test = new SentencesTest(cases);
        test.archive();
        test.housesAndGames();
        test.moves();
        test.handsAndStock();
        test.ends();
        test.signs();
        test.overAndBlocked();
        test.winners();
        test.why();
        test.bets();
        test.pursesAndPools();
        test.appeals();
        test.journal();
        test.crashesAndReplays();
        test.figures();
    }

    private void archive() {
        cases.whatItIs("An archive of a domino club: houses with rules told, games played tile by tile").holds(
            "all of it", Plays.QUICK_HOUSE + """
            checkpoint() = 0; game(0, 22) = 0; bet(0, 0, 1, 30) = 30; bet(1, 0, 0, 9) = 39;
            checkpoint() = throws UnsupportedOperationException; flush() = 3; lay(0, 3, true) = false;
            pass(0) = false; crash() = 2; line(0) = 0; lay(0, 3, true) = false; pass(0) = false; pass(0) = true;
            purse(0) = 109; appeal(0, 's') = 0; purse(0) = 70; purse(1) = 130; replay(-1) = 186815155950595;
            replay(0) = 186815155950595; checkpoint() = 1; replay(1) = 186815155950595; behind(0) = 7; behind(1) = 0;
            """);
    }

    private void housesAndGames() {
        cases.promise(2, "Returns its number.").holds("each game is of the house with this number", """
            house(6, 2, 1, true, 'l') = 0; house(2, 3, 1, true, 's') = 1; house(3, 4, 2, false, 'n') = 2;
            game(2, 0) = 0; game(1, 0) = 1; game(0, 0) = 2; stock(0) = 2; stock(1) = 3; stock(2) = 26; ruling(0) = n;
            ruling(1) = s; ruling(2) = l;
            """);
        cases.promise(3, "Begins a game.").holds("no tile lies, nobody has bet or won", Plays.DRAWN_GAME + """
            mover(0) = 0; hand(0, 0) = 9; hand(0, 1) = 36; stock(0) = 2; line(0) = 0; isOver(0) = false;
            isBlocked(0) = false; winner(0) = throws NoSuchElementException; pool(0) = 0; ruling(0) = l;
            paid(0, 0) = throws IndexOutOfBoundsException; entries() = 1; entry(0) = g; gameOf(0) = 0;
            """);
        cases.promise(3, "Returns its number.").holds("the calls with this number tell of this game",
            Plays.DRAWN_HOUSE + """
            game(0, 10) = 0; game(0, 4) = 1; game(0, 2) = 2; hand(0, 0) = 9; hand(1, 0) = 20; hand(2, 0) = 3;
            gameOf(0) = 0; gameOf(1) = 1; gameOf(2) = 2;
            """);
    }

    private void moves() {
        cases.promise(5, "Returns the tile.").holds("it is in the hand then", Plays.DRAWN_GAME + """
            lay(0, 0, true) = false; lay(0, 2, true) = false; hand(0, 0) = 8; draw(0) = 4; hand(0, 0) = 24;
            lay(0, 4, true) = false; hand(0, 1) = 32; draw(0) = 1; hand(0, 1) = 34;
            """);
        cases.promise(6, "Passes, for the player whose turn it is.").holds("the next one moves, and nothing else", """
            house(6, 3, 3, false, 'l') = 0; game(0, 268) = 0; mover(0) = 0; hand(0, 0) = 131075;
            lay(0, 0, true) = false; mover(0) = 1; hand(0, 1) = 101187584; pass(0) = false;
            mover(0) = 2; hand(0, 1) = 101187584; stock(0) = 19; line(0) = 5; entries() = 3; entry(2) = p;
            """);
        cases.promise(7, "Returns the player.").holds("behind laying, drawing and passing", Plays.DRAWN_GAME + """
            mover(0) = 0; lay(0, 0, true) = false; mover(0) = 1; lay(0, 2, true) = false; mover(0) = 0; draw(0) = 4;
            mover(0) = 0; lay(0, 4, true) = false; draw(0) = 1; mover(0) = 1; lay(0, 1, true) = false; mover(0) = 0;
            pass(0) = false; mover(0) = 1;
            """);
    }

    private void handsAndStock() {
        cases.promise(8, "Returns the tiles of a player.").holds("of each player, of each game, whoever moves",
            TWO_GAMES + """
            hand(0, 0) = 9; hand(0, 1) = 36; hand(1, 0) = 16; hand(1, 1) = 9; lay(0, 3, true) = false; hand(0, 0) = 1;
            hand(0, 1) = 36; hand(1, 0) = 16; hand(1, 1) = 9;
            """);
        cases.promise(9, "Returns their number.").holds("of each game", Plays.DRAWN_HOUSE + """
            house(4, 3, 2, true, 'l') = 1; game(0, 10) = 0; game(1, 0) = 1; stock(0) = 2; stock(1) = 9;
            lay(0, 0, true) = false; stock(0) = 2; lay(0, 2, true) = false; draw(0) = 4; stock(0) = 1; stock(1) = 9;
            """);
    }

    private void ends() {
        cases.promise(10, "Returns the number at an end of the line.").holds("tile by tile", Plays.DRAWN_GAME + """
            lay(0, 0, true) = false; end(0, true) = 0; end(0, false) = 0; lay(0, 2, true) = false; end(0, true) = 2;
            end(0, false) = 0; draw(0) = 4; end(0, true) = 2; lay(0, 4, true) = false; end(0, true) = 1;
            end(0, false) = 0; draw(0) = 1; lay(0, 1, false) = false; end(0, true) = 1; end(0, false) = 1;
            """);
        cases.promise(10, "Returns the number.").holds("of each game", TWO_GAMES + """
            lay(0, 3, false) = false; end(1, true) = 0; end(1, false) = 2; end(0, true) = 1; end(0, false) = 1;
            """);
    }

    private void signs() {
        cases.promise(11, "Returns how many signs.").holds("five for each tile, of each game", TWO_GAMES + """
            line(0) = 0; line(1) = 5; lay(1, 0, true) = false; line(1) = 10; lay(0, 0, true) = false; line(0) = 5;
            """);
        cases.promise(12, "Returns a sign of the line.").holds("each sign of [0|1][1|2][2|0][0|0]", FOUR_TILES + """
            line(0) = 20; sign(0, 0, false) = [; sign(0, 1, false) = 0; sign(0, 2, false) = |; sign(0, 3, false) = 1;
            sign(0, 4, false) = ]; sign(0, 5, false) = [; sign(0, 6, false) = 1; sign(0, 7, false) = |;
            sign(0, 8, false) = 2; sign(0, 9, false) = ]; sign(0, 10, false) = [; sign(0, 11, false) = 2;
            sign(0, 12, false) = |; sign(0, 13, false) = 0; sign(0, 14, false) = ]; sign(0, 15, false) = [;
            sign(0, 16, false) = 0; sign(0, 17, false) = |; sign(0, 18, false) = 0; sign(0, 19, false) = ];
            """);
        cases.promise(12, "Returns the sign.").holds("each sign of it turned, [0|0][0|2][2|1][1|0]", FOUR_TILES + """
            sign(0, 0, true) = [; sign(0, 1, true) = 0; sign(0, 2, true) = |; sign(0, 3, true) = 0;
            sign(0, 4, true) = ]; sign(0, 5, true) = [; sign(0, 6, true) = 0; sign(0, 7, true) = |;
            sign(0, 8, true) = 2; sign(0, 9, true) = ]; sign(0, 10, true) = [; sign(0, 11, true) = 2;
            sign(0, 12, true) = |; sign(0, 13, true) = 1; sign(0, 14, true) = ]; sign(0, 15, true) = [;
            sign(0, 16, true) = 1; sign(0, 17, true) = |; sign(0, 18, true) = 0; sign(0, 19, true) = ];
            """);
    }

    private void overAndBlocked() {
        cases.promise(13, "Returns true if so.").holds("won, blocked and going on", """
            house(2, 2, 1, true, 'l') = 0; house(2, 2, 2, false, 'l') = 1; game(0, 0) = 0; game(1, 22) = 1;
            game(0, 0) = 2; lay(0, 2, true) = true; lay(1, 3, true) = false; pass(1) = false; pass(1) = true;
            isOver(0) = true; isOver(1) = true; isOver(2) = false;
            """);
        cases.promise(14, "Returns true if so.").holds("won, blocked and going on", """
            house(2, 2, 1, true, 'l') = 0; house(2, 2, 2, false, 'l') = 1; game(0, 0) = 0; game(1, 22) = 1;
            game(0, 0) = 2; lay(0, 2, true) = true; lay(1, 3, true) = false; pass(1) = false; pass(1) = true;
            isBlocked(0) = false; isBlocked(1) = true; isBlocked(2) = false;
            """);
    }

    private void winners() {
        cases.promise(15, "Returns who has won.")
            .holds("by the last tile", """
                house(2, 2, 2, false, 's') = 0; game(0, 6) = 0; lay(0, 1, true) = false; lay(0, 4, false) = false;
                pass(0) = false; lay(0, 5, false) = true; winner(0) = 1;
                """)
            .holds("by a block, ruled by each house", """
                house(2, 2, 2, false, 'l') = 0; house(2, 2, 2, false, 's') = 1; house(2, 2, 2, false, 'n') = 2;
                game(0, 22) = 0; game(1, 22) = 1; game(2, 22) = 2;
                """ + Plays.quickBlock(0) + Plays.quickBlock(1) + Plays.quickBlock(2)
                + "winner(0) = 1; winner(1) = 0; winner(2) = -1;");
    }

    private void why() {
        cases.promise(16, "Returns the sign.").holds("'h', 'f', and the number at the end", Plays.DRAWN_GAME + """
            lay(0, 2, true) = throws UnsupportedOperationException; why(0) = h; lay(0, 3, true) = false;
            lay(0, 5, false) = throws UnsupportedOperationException; why(0) = f; why(1) = 1;
            """);
    }

    private void bets() {
        cases.promise(17, "Bets.").holds("from the purse into the pool, as an entry", Plays.DRAWN_GAME + """
            bet(2, 0, 1, 40) = 40; purse(2) = 60; pool(0) = 40; paid(0, 0) = 0; entries() = 2; entry(1) = b;
            gameOf(1) = 0; club() = 0; bet(2, 0, 0, 60) = 100; purse(2) = 0; pool(0) = 100; mover(0) = 0;
            """);
        cases.promise(20, "Returns what a bet was paid.").holds("for each coin what it won", Plays.ONE_TILE_HOUSE + """
            game(0, 0) = 0; bet(0, 0, 0, 10) = 10; bet(1, 0, 0, 20) = 30; bet(2, 0, 1, 31) = 61;
            lay(0, 2, true) = true; paid(0, 0) = 20; paid(0, 1) = 40; paid(0, 2) = 0; club() = 1; purse(0) = 110;
            purse(1) = 120; purse(2) = 69;
            """);
    }

    private void pursesAndPools() {
        cases.promise(18, "Returns the purse of a better.").holds("of each", Plays.DRAWN_GAME + """
            bet(0, 0, 0, 1) = 1; bet(1, 0, 0, 2) = 3; bet(2, 0, 1, 3) = 6; bet(3, 0, 1, 4) = 10; purse(0) = 99;
            purse(1) = 98; purse(2) = 97; purse(3) = 96;
            """);
        cases.promise(19, "Returns the coins.").holds("of each game", Plays.DRAWN_GAME + """
            game(0, 10) = 1; bet(0, 0, 0, 1) = 1; bet(1, 1, 0, 20) = 20; bet(2, 0, 1, 3) = 4; pool(0) = 4;
            pool(1) = 20;
            """);
        cases.promise(21, "Returns the coins.").holds("what is left of one game, and all of another",
            Plays.ONE_TILE_HOUSE + """
            game(0, 0) = 0; bet(0, 0, 0, 2) = 2; bet(1, 0, 0, 1) = 3; bet(2, 0, 1, 1) = 4; lay(0, 2, true) = true;
            paid(0, 0) = 2; paid(0, 1) = 1; club() = 1; game(0, 0) = 1; bet(3, 1, 1, 50) = 50;
            lay(1, 2, true) = true; club() = 51;
            """);
    }

    private void appeals() {
        cases.promise(22, "Rules a blocked game another way.").holds("the winner, the ruling and an entry",
            BLOCKED + """
            winner(0) = 1; ruling(0) = l; entries() = 4; appeal(0, 's') = 0; winner(0) = 0; ruling(0) = s;
            entries() = 5; entry(4) = a; gameOf(4) = 0; isOver(0) = true; isBlocked(0) = true;
            """);
        cases.promise(22, "Returns who has won then, -1 for nobody.").holds("each ruling", """
            house(2, 2, 2, false, 'n') = 0; game(0, 22) = 0;
            """ + Plays.quickBlock(0) + "winner(0) = -1; appeal(0, 's') = 0; appeal(0, 'l') = 1; game(0, 22) = 1;"
            + Plays.quickBlock(1) + "appeal(1, 'l') = 1; appeal(1, 'n') = -1;");
        cases.promise(23, "Returns the letter.").holds("of the house, and of the appeal", BLOCKED + """
            game(0, 22) = 1; ruling(0) = l; ruling(1) = l; appeal(0, 'n') = -1; ruling(0) = n; ruling(1) = l;
            """);
    }

    private void journal() {
        cases.promise(24, "Returns their number.").holds("call by call", """
            entries() = 0; house(2, 2, 2, false, 'l') = 0; entries() = 0; game(0, 22) = 0; entries() = 1;
            bet(0, 0, 0, 1) = 1; entries() = 2; lay(0, 3, true) = false; entries() = 3; flush() = 3; entries() = 3;
            pass(0) = false; entries() = 4; crash() = 1; entries() = 3;
            """);
        cases.promise(25, "Returns their number.").holds("call by call", """
            loose() = 0; house(2, 2, 2, false, 'l') = 0; loose() = 0; game(0, 22) = 0; loose() = 1; flush() = 1;
            loose() = 0; lay(0, 3, true) = false; pass(0) = false; loose() = 2; replay(-1) = 186815125504193;
            loose() = 2; checkpoint() = 0; loose() = 0;
            """);
        cases.promise(26, "Returns what an entry is.").holds("of two games in turn", TWO_GAMES + """
            entry(0) = g; entry(1) = g; entry(2) = t; bet(0, 0, 0, 1) = 1; lay(0, 0, true) = false; entry(3) = b;
            entry(4) = t;
            """);
        cases.promise(27, "Returns the game of an entry.").holds("of two games in turn", TWO_GAMES + """
            gameOf(0) = 0; gameOf(1) = 1; gameOf(2) = 1; bet(0, 0, 0, 1) = 1; lay(0, 0, true) = false;
            bet(0, 1, 0, 1) = 1; gameOf(3) = 0; gameOf(4) = 0; gameOf(5) = 1;
            """);
    }

    private void crashesAndReplays() {
        cases.promise(28, "Flushes the journal.").holds("what came before it outlives crashes", Plays.DRAWN_GAME + """
            lay(0, 0, true) = false; flush() = 2; lay(0, 2, true) = false; crash() = 1; crash() = 0; entries() = 2;
            line(0) = 5; hand(0, 0) = 8; hand(0, 1) = 36; mover(0) = 1;
            """);
        cases.promise(31, "Returns their number.").holds("of each checkpoint", Plays.DRAWN_GAME + """
            checkpoint() = 0; lay(0, 0, true) = false; lay(0, 2, true) = false; checkpoint() = 1; draw(0) = 4;
            behind(0) = 3; behind(1) = 1;
            """);
        Cases.Case each = cases.promise(32, "Replays from a checkpoint.");
        Caller caller = new Caller();
        for (Rows.Row row : Rows.of("checkpoint() = 0;" + Plays.DRAWN_GAME + "checkpoint() = 1;" + Plays.FOUR_BETS
                + Plays.DRAWN_PLAY + "appeal(0, 's') = 1;")) {
            each.due(row.call(), row.answer(), caller.ask(row.call()));
            for (int checkpoint = -1; checkpoint < 2; checkpoint++) {
                String call = "replay(" + checkpoint + ")";
                boolean isThere = !caller.ask(call).startsWith("throws");
                each.due(call + " behind " + row.call(), isThere ? caller.ask("checksum()") : "throws"
                    + " IndexOutOfBoundsException", caller.ask(call));
            }
        }
    }

    private void figures() {
        Cases.Case each = cases.promise(33, "Returns a sum over all games.");
        Caller caller = new Caller();
        TreeSet<String> sums = new TreeSet<>();
        caller.ask("house(2, 2, 1, true, 'l')");
        for (int game = 0; game < 6; game++) {
            caller.ask("game(0, 0)");
            sums.add(caller.ask("checksum()"));
        }
        for (int game = 5; game >= 0; game--) {
            each.due("the game " + game, "true", caller.ask("lay(" + game + ", 2, true)"));
            sums.add(caller.ask("checksum()"));
        }
        each.due("each game counts", 12, sums.size());
        cases.promise(34, "Returns the share of games that are over.").holds("one, two and three of four", """
            house(2, 2, 1, true, 'l') = 0; game(0, 0) = 0; game(0, 0) = 1; game(0, 0) = 2; game(0, 0) = 3;
            lay(2, 2, true) = true; playedShare() = 0.25; lay(0, 2, true) = true; playedShare() = 0.5;
            lay(3, 2, true) = true; playedShare() = 0.75;
            """);
        cases.promise(35, "Returns the mean purse.").holds("behind bets, and when they are paid",
            Plays.ONE_TILE_HOUSE + """
            meanPurse() = 100.0; game(0, 0) = 0; bet(0, 0, 0, 30) = 30; meanPurse() = 92.5; bet(1, 0, 1, 15) = 45;
            meanPurse() = 88.75; lay(0, 2, true) = true; meanPurse() = 100.0;
            """);
    }
}
