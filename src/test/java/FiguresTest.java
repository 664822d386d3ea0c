import java.math.BigInteger;

/** The boundary cases of the promises 33 to 36: checksum, playedShare, meanPurse, isSound. */
final class FiguresTest {
    private static final String CHECKSUM = "Returns 7 at first, then for each game 31 times itself plus the tiles in"
        + " the line, then for each player 31 times itself plus the hand, modulo 1000003; then 31 times itself plus the"
        + " winner, -2 if it is not over; then for each purse 31 times itself plus it, and 31 times itself plus what"
        + " the club has.";
    private static final String FOUR_PLAYERS = "house(6, 4, 7, false, 'l') = 0;";
    private static final String QUICK_BETS = Plays.QUICK_HOUSE + Plays.quickGame(0)
        + "bet(0, 0, 0, 30) = 30; bet(1, 0, 1, 100) = 130;" + Plays.quickBlock(0);

    private final Cases cases;

    private FiguresTest(Cases cases) {
        this.cases = cases;
    }

    static void run(Cases cases) {
        FiguresTest test = new FiguresTest(cases);
        test.checksums();
        test.wrappedChecksums();
        test.handsInChecksums();
        test.shares();
        test.noShare();
        test.means();
        test.sound();
    }

    private void checksums() {
        checksum("no game", "", false);
        checksum("one game of two players, no tile lies", Plays.DRAWN_GAME, false);
        checksum("one game of four players", "house(2, 4, 1, true, 'l') = 0; game(0, 0) = 0;", false);
        checksum("the player 0 won", Plays.ONE_TILE_HOUSE + Plays.wonGame(0), false);
        checksum("the player 1 won", Plays.QUICK_HOUSE + Plays.blockedGame(0), false);
        checksum("nobody won", Plays.QUICK_HOUSE + Plays.blockedGame(0) + "appeal(0, 'n') = -1;", false);
        checksum("the club has something", QUICK_BETS + "appeal(0, 'n') = -1;", false);
        checksum("purses with none and with more than at first", QUICK_BETS, false);
        cases.promise(33, CHECKSUM)
            .holds("no game", "checksum() = 295834457; house(2, 2, 1, true, 'l') = 0; checksum() = 295834457;")
            .holds("one game", Plays.DRAWN_GAME + "checksum() = 185356956956310;")
            .changesNothing("no game", "", "checksum() = 295834457;");
    }

    private void wrappedChecksums() {
        checksum("one game of four players with great hands", FOUR_PLAYERS + "game(0, 0) = 0;", true);
        checksum("two games of two players, positive", Plays.QUICK_HOUSE + Plays.blockedGame(0) + Plays.blockedGame(1),
            true);
        checksum("two games, a purse below 0", Plays.owing(), true);
        checksum("two games of four players, negative", FOUR_PLAYERS + "game(0, 0) = 0; game(0, 1) = 1;", true);
        checksum("six games of four players", FOUR_PLAYERS + "game(0, 0) = 0; game(0, 1) = 1; game(0, 2) = 2;"
            + "game(0, 3) = 3; game(0, 4) = 4; game(0, 999999) = 5;", true);
        cases.promise(33, CHECKSUM)
            .holds("beyond a long, positive", Plays.QUICK_HOUSE + Plays.blockedGame(0) + Plays.quickGame(1)
                + "bet(2, 1, 1, 7) = 7;" + Plays.quickBlock(1) + """
                appeal(1, 's') = 0; checksum() = 6506987782087533700; appeal(1, 'l') = 1;
                checksum() = 6506987782116169571;
                """)
            .holds("beyond a long, negative", FOUR_PLAYERS + """
                game(0, 0) = 0; game(0, 1) = 1; checksum() = -5616700185397606538;
                """);
    }

    private void handsInChecksums() {
        String greatest = "house(6, 2, 1, true, 'l') = 0;";
        for (int seed = 0; seed < 40; seed++) {
            checksum("a hand of one tile, seed " + seed, greatest + "game(0, " + seed + ") = 0;", false);
        }
        checksum("hands of many tiles", "house(6, 2, 7, true, 'l') = 0; game(0, 999999) = 0;", false);
    }

    /** The checksum that the document tells, of what the club answers otherwise. */
    private void checksum(String what, String rows, boolean isBeyondLong) {
        Caller caller = new Caller();
        for (Rows.Row row : Rows.of(rows)) {
            caller.ask(row.call());
        }
        BigInteger due = told(caller.club);
        Cases.Case each = cases.promise(33, CHECKSUM);
        each.due(what + ", beyond a long", isBeyondLong, due.bitLength() > 63);
        each.due(what, due.longValue(), caller.club.checksum());
        each.due(what + ", replayed", due.longValue(), caller.club.replay(-1));
    }

    private static BigInteger told(Dominofs club) {
        BigInteger sum = BigInteger.valueOf(7);
        for (int game = 0; !isRefused(club, "line(" + game + ")"); game++) {
            sum = next(sum, club.line(game) / 5);
            for (int player = 0; !isRefused(club, "hand(" + game + ", " + player + ")"); player++) {
                sum = next(sum, club.hand(game, player) % 1000003);
            }
            sum = next(sum, club.isOver(game) ? club.winner(game) : -2);
        }
        for (int better = 0; better < 4; better++) {
            sum = next(sum, club.purse(better));
        }
        return next(sum, club.club());
    }

    private static BigInteger next(BigInteger sum, long figure) {
        return sum.multiply(BigInteger.valueOf(31)).add(BigInteger.valueOf(figure));
    }

    private static boolean isRefused(Dominofs club, String call) {
        return Rows.ask(club, call).startsWith("throws");
    }

    private void shares() {
        Cases.Case each = cases.promise(34, "Returns their number divided by that of all, both converted to float.");
        each.holds("none and all of one", Plays.ONE_TILE_HOUSE + """
            game(0, 0) = 0; playedShare() = 0.0; lay(0, 2, true) = true; playedShare() = 1.0;
            """);
        each.holds("shares that are cut", Plays.ONE_TILE_HOUSE + Plays.wonGame(0) + """
            game(0, 0) = 1; game(0, 0) = 2; playedShare() = 0.33333334; lay(1, 2, true) = true;
            playedShare() = 0.6666667;
            game(0, 0) = 3; playedShare() = 0.5; game(0, 0) = 4; playedShare() = 0.4; game(0, 0) = 5;
            playedShare() = 0.33333334; lay(2, 2, true) = true; playedShare() = 0.5; lay(3, 2, true) = true;
            playedShare() = 0.6666667; lay(4, 2, true) = true; playedShare() = 0.8333333; lay(5, 2, true) = true;
            playedShare() = 1.0; crash() = 12;
            """);
        each.holds("none and one of six", Plays.ONE_TILE_HOUSE + """
            game(0, 0) = 0; game(0, 0) = 1; game(0, 0) = 2; game(0, 0) = 3; game(0, 0) = 4; game(0, 0) = 5;
            playedShare() = 0.0; lay(5, 2, true) = true; playedShare() = 0.16666667;
            """);
        each.holds("blocked games are over, too", Plays.QUICK_HOUSE + Plays.blockedGame(0)
            + "playedShare() = 1.0; appeal(0, 'n') = -1; playedShare() = 1.0;" + Plays.quickGame(1)
            + "playedShare() = 0.5;");
    }

    private void noShare() {
        cases.promise(34, "Throws NoSuchElementException if there are none")
            .changesNothing("no house, no game", "", "playedShare() = throws NoSuchElementException;")
            .changesNothing("houses alone", Plays.QUICK_HOUSE, "playedShare() = throws NoSuchElementException;")
            .changesNothing("a crash lost the only game", Plays.QUICK_HOUSE + Plays.blockedGame(0) + "crash() = 4;", """
                playedShare() = throws NoSuchElementException;
                """);
    }

    private void means() {
        cases.promise(35, "Returns the sum divided by 4, both converted to double.")
            .holds("at first", "meanPurse() = 100.0;")
            .holds("quarters", Plays.DRAWN_GAME + """
                bet(0, 0, 0, 1) = 1; meanPurse() = 99.75; bet(1, 0, 0, 1) = 2; meanPurse() = 99.5; bet(2, 0, 0, 1) = 3;
                meanPurse() = 99.25; bet(3, 0, 0, 1) = 4; meanPurse() = 99.0;
                """)
            .holds("nothing in any purse", Plays.DRAWN_GAME + """
                bet(0, 0, 0, 100) = 100; bet(1, 0, 0, 100) = 200; bet(2, 0, 0, 100) = 300; bet(3, 0, 1, 100) = 400;
                meanPurse() = 0.0;
                """)
            .holds("below 0", Plays.owing() + """
                bet(1, 1, 1, 199) = 399; bet(2, 1, 1, 100) = 499; bet(3, 1, 1, 100) = 599; purse(0) = -200;
                purse(1) = 1;
                meanPurse() = -49.75; appeal(0, 'n') = -1; purse(1) = -199; meanPurse() = -99.75;
                """);
    }

    private void sound() {
        Cases.Case each = cases.promise(36, "Returns true if so.");
        each.changesNothing("of nothing", "", "isSound() = true;");
        each.changesNothing("of houses alone", Plays.QUICK_HOUSE, "isSound() = true;");
        each.changesNothing("of six games, with open bets and five checkpoints", Plays.QUICK_HOUSE + """
            house(2, 2, 1, true, 'n') = 1; checkpoint() = 0; game(1, 0) = 0; checkpoint() = 1; lay(0, 2, true) = true;
            checkpoint() = 2;
            """ + Plays.blockedGame(1) + "checkpoint() = 3; checkpoint() = 4;" + Plays.blockedGame(2) + """
            appeal(2, 's') = 0; game(0, 22) = 3; bet(0, 3, 0, 100) = 100; game(1, 0) = 4; bet(1, 4, 1, 100) = 100;
            game(0, 22) = 5; bet(2, 5, 1, 100) = 100;
            """, "isSound() = true;");
        each.holds("of 400 entries", "checkpoint() = 0;" + FullJournal.of(400) + "isSound() = true; crash() = 400;"
            + "isSound() = true;");
    }
}
