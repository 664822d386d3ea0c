/** The boundary cases of the promises 17 to 23: bets and appeals. */
final class BetsTest {
    private static final String WON = Plays.ONE_TILE_HOUSE + Plays.wonGame(0);
    private static final String BLOCKED = Plays.QUICK_HOUSE + Plays.blockedGame(0);
    private static final String TEN = Plays.DRAWN_GAME + Plays.TEN_BETS;
    /** The game 5 is blocked, and there are 400 entries. */
    private static final String FULL_BLOCKED = FullJournal.of(396) + game5();
    private static final String FULL_ONE_APPEAL = FullJournal.of(395) + game5() + "appeal(5, 's') = 0;";
    private static final String FULL_TWO_APPEALS = FullJournal.of(394) + game5()
        + "appeal(5, 's') = 0; appeal(5, 'n') = -1;";
    private static final String NO_SUCH_BET = "Throws IndexOutOfBoundsException if there is no such game or bet";

    private final Cases cases;

    private BetsTest(Cases cases) {
        this.cases = cases;
    }

    static void run(Cases cases) {
        BetsTest test = new BetsTest(cases);
        test.betters();
        test.players();
        test.coins();
        test.coinsRefused();
        test.betWhenOver();
        test.tenBets();
        test.betsAndEntries();
        test.purses();
        test.pools();
        test.betNumbers();
        test.paidOrNot();
        test.club();
        test.rulings();
        test.appealsRefused();
        test.twoAppeals();
        test.appealsAndCheckpoints();
        test.appealsAndEntries();
        test.rulingInForce();
    }

    private static String game5() {
        return "game(2, 22) = 5;" + Plays.quickBlock(5);
    }

    private void betters() {
        cases.promise(17, "better: the better, 0 to 3").holds("the least and the greatest", Plays.DRAWN_GAME + """
            bet(0, 0, 0, 1) = 1; bet(3, 0, 0, 2) = 3; purse(0) = 99; purse(1) = 100; purse(2) = 100; purse(3) = 98;
            """);
        Cases.Case each = cases.promise(17,
            "Throws IndexOutOfBoundsException if there is no such better, game or player");
        each.changesNothing("a better, one beyond on either side, and far beyond", Plays.DRAWN_GAME, """
            bet(-1, 0, 0, 1) = throws IndexOutOfBoundsException; bet(4, 0, 0, 1) = throws IndexOutOfBoundsException;
            bet(-2147483648, 0, 0, 1) = throws IndexOutOfBoundsException;
            bet(2147483647, 0, 0, 1) = throws IndexOutOfBoundsException;
            """);
        each.changesNothing("listed first, when the coins are too few or too many", Plays.DRAWN_GAME, """
            bet(4, 0, 0, 0) = throws IndexOutOfBoundsException; bet(-1, 0, 0, 101) = throws IndexOutOfBoundsException;
            bet(0, 1, 0, 0) = throws IndexOutOfBoundsException; bet(0, -1, 0, 101) = throws IndexOutOfBoundsException;
            bet(0, 0, 2, 0) = throws IndexOutOfBoundsException; bet(0, 0, -1, 101) = throws IndexOutOfBoundsException;
            """);
        each.changesNothing("listed first, when the game is over", WON, """
            bet(4, 0, 0, 1) = throws IndexOutOfBoundsException; bet(0, 0, 2, 1) = throws IndexOutOfBoundsException;
            """);
        each.changesNothing("listed first, when there are 10 bets", TEN, """
            bet(4, 0, 0, 1) = throws IndexOutOfBoundsException; bet(0, 0, 2, 1) = throws IndexOutOfBoundsException;
            """);
        each.changesNothing("listed first, when there are 400 entries", FullJournal.of(400), """
            bet(4, 4, 0, 1) = throws IndexOutOfBoundsException; bet(0, 5, 0, 1) = throws IndexOutOfBoundsException;
            bet(0, 4, 4, 1) = throws IndexOutOfBoundsException;
            """);
    }

    private void players() {
        cases.promise(17, "player: the player").holds("the first and the last one, of two and of four", """
            house(2, 2, 1, true, 'l') = 0; house(2, 4, 1, true, 'l') = 1; game(0, 0) = 0; game(1, 0) = 1;
            bet(0, 0, 0, 1) = 1; bet(0, 0, 1, 1) = 2; bet(0, 1, 0, 1) = 1; bet(0, 1, 3, 1) = 2;
            """);
        cases.promise(17, "Throws IndexOutOfBoundsException if there is no such better, game or player")
            .changesNothing("a player, one beyond on either side, and far beyond", Plays.DRAWN_GAME, """
                bet(0, 0, 2, 1) = throws IndexOutOfBoundsException; bet(0, 0, -1, 1) = throws IndexOutOfBoundsException;
                bet(0, 0, 3, 1) = throws IndexOutOfBoundsException;
                bet(0, 0, -2147483648, 1) = throws IndexOutOfBoundsException;
                bet(0, 0, 2147483647, 1) = throws IndexOutOfBoundsException;
                """)
            .changesNothing("a player of four, one beyond on either side", """
                house(2, 4, 1, true, 'l') = 0; game(0, 0) = 0;
                """, """
                bet(0, 0, 4, 1) = throws IndexOutOfBoundsException; bet(0, 0, -1, 1) = throws IndexOutOfBoundsException;
                """);
    }

    private void coins() {
        cases.promise(17, "coins: how many coins")
            .holds("the least and the greatest", Plays.DRAWN_GAME + """
                bet(0, 0, 0, 1) = 1; bet(0, 0, 0, 99) = 100; purse(0) = 0; bet(1, 0, 0, 100) = 200; purse(1) = 0;
                """)
            .holds("all of a purse that won", Plays.ONE_TILE_HOUSE + """
                game(0, 0) = 0; bet(0, 0, 0, 50) = 50; bet(1, 0, 1, 70) = 120; lay(0, 2, true) = true; purse(0) = 170;
                game(0, 0) = 1; bet(0, 1, 0, 171) = throws IllegalArgumentException;
                bet(0, 1, 0, 170) = 170; purse(0) = 0;
                """);
        cases.promise(17, "Returns what the pool of the game has.")
            .holds("of this game alone", Plays.DRAWN_GAME + """
                game(0, 10) = 1; bet(0, 0, 0, 7) = 7; bet(0, 1, 0, 5) = 5; bet(1, 0, 1, 7) = 14; bet(1, 1, 1, 5) = 10;
                """)
            .holds("the greatest pool of four first purses", Plays.DRAWN_GAME + """
                bet(0, 0, 0, 100) = 100; bet(1, 0, 0, 100) = 200; bet(2, 0, 0, 100) = 300; bet(3, 0, 0, 100) = 400;
                """);
    }

    private void coinsRefused() {
        Cases.Case each = cases.promise(17, "Throws IllegalArgumentException if there are fewer coins than 1, or more"
            + " than the purse has");
        each.changesNothing("one beyond on either side, and far beyond", Plays.DRAWN_GAME, """
            bet(0, 0, 0, 0) = throws IllegalArgumentException; bet(0, 0, 0, 101) = throws IllegalArgumentException;
            bet(0, 0, 0, -1) = throws IllegalArgumentException;
            bet(0, 0, 0, -2147483648) = throws IllegalArgumentException;
            bet(0, 0, 0, 2147483647) = throws IllegalArgumentException;
            """);
        each.changesNothing("the purse has none", Plays.DRAWN_GAME + "bet(0, 0, 0, 100) = 100;", """
            bet(0, 0, 0, 1) = throws IllegalArgumentException; bet(0, 0, 0, 0) = throws IllegalArgumentException;
            """);
        each.changesNothing("the purse is below 0", Plays.owing(), """
            bet(0, 1, 0, 1) = throws IllegalArgumentException; bet(0, 1, 0, 0) = throws IllegalArgumentException;
            bet(0, 1, 0, -200) = throws IllegalArgumentException; bet(0, 1, 0, -201) = throws IllegalArgumentException;
            """);
        each.changesNothing("listed first, when the game was won", WON, """
            bet(0, 0, 0, 0) = throws IllegalArgumentException; bet(0, 0, 0, 101) = throws IllegalArgumentException;
            """);
        each.changesNothing("listed first, when there are 10 bets", TEN, """
            bet(0, 0, 0, 0) = throws IllegalArgumentException; bet(0, 0, 0, 86) = throws IllegalArgumentException;
            """);
        each.changesNothing("listed first, when there are 400 entries", FullJournal.of(400), """
            bet(0, 4, 0, 0) = throws IllegalArgumentException; bet(0, 4, 0, 97) = throws IllegalArgumentException;
            """);
    }

    private void betWhenOver() {
        Cases.Case each = cases.promise(17, "Throws IllegalStateException if the game is over, has 10 bets");
        each.changesNothing("it was won", WON, """
            bet(0, 0, 0, 1) = throws IllegalStateException; bet(3, 0, 1, 100) = throws IllegalStateException;
            """);
        each.changesNothing("it was blocked", BLOCKED, "bet(0, 0, 0, 1) = throws IllegalStateException;");
        each.changesNothing("it was blocked, and nobody won", BLOCKED + "appeal(0, 'n') = -1;", """
            bet(0, 0, 0, 1) = throws IllegalStateException;
            """);
        each.holds("just before the end, and when a crash lost the end", Plays.DRAWN_GAME + Plays.DRAWN_BUT_LAST + """
            bet(0, 0, 0, 1) = 1; flush() = 9; pass(0) = true; bet(0, 0, 0, 1) = throws IllegalStateException;
            crash() = 1; bet(0, 0, 0, 1) = 2;
            """);
    }

    private void tenBets() {
        Cases.Case each = cases.promise(17, "has 10 bets");
        each.changesNothing("10", TEN, """
            bet(0, 0, 0, 1) = throws IllegalStateException; bet(3, 0, 1, 88) = throws IllegalStateException;
            """);
        each.holds("bets that crashes lost do not count", Plays.DRAWN_GAME
            + Plays.times("bet(0, 0, 0, 1) = 1; crash() = 2; game(0, 10) = 0;", 11) + Plays.TEN_BETS
            + "bet(0, 0, 0, 1) = throws IllegalStateException; entries() = 11;"
            + "game(0, 10) = 1; bet(0, 1, 0, 1) = 1;");
        each.holds("of another game", Plays.DRAWN_GAME + "game(0, 10) = 1;" + Plays.TEN_BETS + """
            bet(0, 1, 0, 1) = 1; bet(0, 0, 0, 1) = throws IllegalStateException;
            """);
    }

    private void betsAndEntries() {
        Cases.Case each = cases.promise(17, "or there are 400 entries");
        each.holds("399, then 400", FullJournal.of(399) + """
            bet(0, 4, 0, 1) = 10; entries() = 400; entry(399) = b; paid(4, 9) = 0;
            bet(1, 4, 0, 1) = throws IllegalStateException;
            """);
        each.changesNothing("400, nine bets on a game that is not over", FullJournal.of(400), """
            bet(0, 4, 0, 1) = throws IllegalStateException; bet(0, 4, 0, 96) = throws IllegalStateException;
            """);
    }

    private void purses() {
        cases.promise(18, "better: the better, 0 to 3").holds("the least and the greatest", Plays.DRAWN_GAME + """
            bet(0, 0, 0, 1) = 1; bet(3, 0, 0, 2) = 3; purse(0) = 99; purse(3) = 98; purse(1) = 100; purse(2) = 100;
            """);
        cases.promise(18, "Throws IndexOutOfBoundsException if there is no such better")
            .changesNothing("one beyond on either side, and far beyond", Plays.DRAWN_GAME, """
                purse(-1) = throws IndexOutOfBoundsException; purse(4) = throws IndexOutOfBoundsException;
                purse(-2147483648) = throws IndexOutOfBoundsException;
                purse(2147483647) = throws IndexOutOfBoundsException;
                """);
        cases.promise(18, "Returns the coins.")
            .holds("none, and fewer than none", Plays.owing() + """
                purse(0) = -200; bet(1, 1, 0, 200) = 400; purse(1) = 0; appeal(0, 'n') = -1; purse(1) = -200;
                purse(0) = -200; purse(2) = 100; meanPurse() = -50.0;
                """)
            .holds("all that there is", Plays.ONE_TILE_HOUSE + """
                game(0, 0) = 0; bet(0, 0, 0, 1) = 1; bet(1, 0, 1, 100) = 101; bet(2, 0, 1, 100) = 201;
                bet(3, 0, 1, 100) = 301; lay(0, 2, true) = true; purse(0) = 400; purse(1) = 0; purse(2) = 0;
                purse(3) = 0;
                game(0, 0) = 1; bet(0, 1, 1, 400) = 400; lay(1, 2, true) = true; purse(0) = 0; club() = 400;
                """);
    }

    private void pools() {
        Cases.Case each = cases.promise(19, "Returns the pool of a game, as it was bet.");
        each.holds("no bet", Plays.DRAWN_GAME + "pool(0) = 0;");
        each.holds("behind its end, and behind appeals", Plays.QUICK_HOUSE + Plays.quickGame(0)
            + "bet(0, 0, 0, 5) = 5; bet(1, 0, 1, 6) = 11; pool(0) = 11;" + Plays.quickBlock(0)
            + "pool(0) = 11; appeal(0, 'n') = -1; pool(0) = 11; appeal(0, 's') = 0; pool(0) = 11;");
        each.holds("a crash lost the last bet", Plays.DRAWN_GAME + """
            bet(0, 0, 0, 5) = 5; flush() = 2; bet(1, 0, 1, 6) = 11; crash() = 1; pool(0) = 5;
            """);
        each.holds("10 bets", TEN + "pool(0) = 55;");
    }

    private void betNumbers() {
        cases.promise(20, "bet: the number of the bet on it, from 0").holds("the first and the last of 10",
            Plays.ONE_TILE_HOUSE + "game(0, 0) = 0;" + Plays.TEN_BETS + """
            paid(0, 0) = 0; paid(0, 9) = 0; lay(0, 2, true) = true;
            """ + Plays.TEN_BETS_PAID);
        Cases.Case each = cases.promise(20, NO_SUCH_BET);
        each.changesNothing("no bet", Plays.DRAWN_GAME, """
            paid(0, 0) = throws IndexOutOfBoundsException; paid(0, -1) = throws IndexOutOfBoundsException;
            """);
        each.changesNothing("of two bets, one beyond on either side, and far beyond", Plays.DRAWN_GAME
            + "bet(0, 0, 0, 5) = 5; bet(1, 0, 1, 6) = 11;", """
            paid(0, -1) = throws IndexOutOfBoundsException; paid(0, 2) = throws IndexOutOfBoundsException;
            paid(0, -2147483648) = throws IndexOutOfBoundsException;
            paid(0, 2147483647) = throws IndexOutOfBoundsException;
            """);
        each.changesNothing("of 10 bets, one beyond on either side", TEN, """
            paid(0, -1) = throws IndexOutOfBoundsException; paid(0, 10) = throws IndexOutOfBoundsException;
            """);
        each.changesNothing("of a game that is over", WON, "paid(0, 0) = throws IndexOutOfBoundsException;");
        each.changesNothing("neither game nor bet", TEN, "paid(1, 10) = throws IndexOutOfBoundsException;");
        each.changesNothing("a crash lost the bet", Plays.DRAWN_GAME + """
            bet(0, 0, 0, 5) = 5; flush() = 2; bet(1, 0, 1, 6) = 11; crash() = 1;
            """, "paid(0, 1) = throws IndexOutOfBoundsException; paid(0, 0) = 0;");
    }

    private void paidOrNot() {
        cases.promise(20, "Returns the coins, 0 as long as the game is not over.")
            .holds("just before the end, and behind it", Plays.DRAWN_GAME + Plays.FOUR_BETS + Plays.DRAWN_BUT_LAST + """
                paid(0, 0) = 0; paid(0, 2) = 0; pass(0) = true; paid(0, 0) = 50; paid(0, 1) = 0; paid(0, 2) = 16;
                paid(0, 3) = 0;
                """)
            .holds("a crash lost the end, and other bets came", Plays.DRAWN_GAME + Plays.DRAWN_BUT_LAST + """
                flush() = 8; bet(0, 0, 0, 5) = 5; pass(0) = true; paid(0, 0) = 5; crash() = 2; bet(1, 0, 0, 6) = 6;
                paid(0, 0) = 0; pass(0) = true; paid(0, 0) = 6; purse(0) = 100; purse(1) = 100;
                """)
            .holds("in a place where a game with more bets was that was lost", Plays.ONE_TILE_HOUSE + """
                game(0, 0) = 0; bet(1, 0, 0, 5) = 5; bet(2, 0, 0, 6) = 11; bet(0, 0, 0, 7) = 18; bet(3, 0, 1, 8) = 26;
                lay(0, 2, true) = true; paid(0, 2) = 10; crash() = 6; game(0, 0) = 0; bet(1, 0, 0, 5) = 5;
                lay(0, 2, true) = true; paid(0, 0) = 5; paid(0, 1) = throws IndexOutOfBoundsException; purse(0) = 100;
                purse(1) = 100; purse(2) = 100; purse(3) = 100; club() = 0;
                """)
            .holds("in a place where a game was that was lost", Plays.ONE_TILE_HOUSE + """
                game(0, 0) = 0; bet(0, 0, 0, 5) = 5; lay(0, 2, true) = true; paid(0, 0) = 5; crash() = 3;
                game(0, 0) = 0; bet(0, 0, 1, 5) = 5; paid(0, 0) = 0; lay(0, 2, true) = true; paid(0, 0) = 0; club() = 5;
                """);
    }

    private void club() {
        cases.promise(21, "Returns what the club has.")
            .holds("nothing at first, and as long as games go on", "club() = 0;" + TEN + "club() = 0;")
            .holds("all that there is, and none of it when an appeal takes it back", "house(2, 2, 2, false, 'n') = 0;"
                + Plays.quickGame(0) + """
                bet(0, 0, 0, 100) = 100; bet(1, 0, 0, 100) = 200; bet(2, 0, 1, 100) = 300; bet(3, 0, 1, 100) = 400;
                """ + Plays.quickBlock(0) + """
                club() = 400; purse(0) = 0; meanPurse() = 0.0; appeal(0, 'l') = 1; club() = 0; purse(2) = 200;
                purse(3) = 200; appeal(0, 'n') = -1; club() = 400; purse(2) = 0;
                """)
            .holds("a crash takes it back", Plays.ONE_TILE_HOUSE + """
                game(0, 0) = 0; bet(0, 0, 1, 9) = 9; lay(0, 2, true) = true; club() = 9; crash() = 3; club() = 0;
                """);
    }

    private void rulings() {
        cases.promise(22, "ruling: 'l', 's' or 'n'")
            .holds("'s' and 'n'", BLOCKED + "appeal(0, 's') = 0; appeal(0, 'n') = -1; ruling(0) = n;")
            .holds("'l'", "house(2, 2, 2, false, 'n') = 0;" + Plays.blockedGame(0) + "appeal(0, 'l') = 1;");
        String letters = """
            appeal(0, 'k') = throws IllegalArgumentException; appeal(0, 'm') = throws IllegalArgumentException;
            appeal(0, 'o') = throws IllegalArgumentException; appeal(0, 'r') = throws IllegalArgumentException;
            appeal(0, 't') = throws IllegalArgumentException; appeal(0, 'L') = throws IllegalArgumentException;
            appeal(0, (char) 0) = throws IllegalArgumentException;
            appeal(0, (char) 364) = throws IllegalArgumentException;
            appeal(0, (char) 65535) = throws IllegalArgumentException;
            """;
        Cases.Case each = cases.promise(22, "Throws IllegalArgumentException if there is no such ruling");
        each.changesNothing("the letters beside them, and others", BLOCKED, letters);
        each.changesNothing("listed first, when the game is not blocked", Plays.DRAWN_GAME, letters);
        each.changesNothing("listed first, when the game was won", WON, letters);
        each.changesNothing("listed first, when it had 2 appeals", BLOCKED + "appeal(0, 's') = 0; appeal(0, 'n') = -1;",
            letters);
        each.changesNothing("listed first, behind a checkpoint", BLOCKED + "checkpoint() = 0;", letters);
        each.changesNothing("listed first, when there are 400 entries", FULL_BLOCKED, """
            appeal(5, 'x') = throws IllegalArgumentException; appeal(4, 'x') = throws IllegalArgumentException;
            """);
        cases.promise(22, "Throws IndexOutOfBoundsException if there is no such game")
            .changesNothing("listed first, when there is no such ruling", BLOCKED, """
                appeal(1, 'x') = throws IndexOutOfBoundsException; appeal(-1, 'x') = throws IndexOutOfBoundsException;
                """)
            .changesNothing("listed first, behind a checkpoint", BLOCKED + "checkpoint() = 0;", """
                appeal(1, 's') = throws IndexOutOfBoundsException;
                """)
            .changesNothing("listed first, when there are 400 entries", FULL_BLOCKED, """
                appeal(6, 's') = throws IndexOutOfBoundsException; appeal(-1, 'x') = throws IndexOutOfBoundsException;
                """);
    }

    private void appealsRefused() {
        Cases.Case blocked = cases.promise(22, "Throws UnsupportedOperationException if the game is not blocked");
        String each = """
            appeal(0, 'l') = throws UnsupportedOperationException; appeal(0, 's') = throws
            UnsupportedOperationException; appeal(0, 'n') = throws UnsupportedOperationException;
            """;
        blocked.changesNothing("it is not over", Plays.DRAWN_GAME, each);
        blocked.changesNothing("just before it is blocked", Plays.DRAWN_GAME + Plays.DRAWN_BUT_LAST, each);
        blocked.changesNothing("it was won", WON, each);
        blocked.changesNothing("a crash lost the block", Plays.DRAWN_GAME + Plays.DRAWN_BUT_LAST
            + "flush() = 8; pass(0) = true; crash() = 1;", each);
        blocked.changesNothing("listed first, when it was won, behind a checkpoint", WON + "checkpoint() = 0;", each);
        blocked.changesNothing("listed first, when there are 400 entries", FULL_BLOCKED, """
            appeal(4, 's') = throws UnsupportedOperationException; appeal(0, 's') = throws
            UnsupportedOperationException; appeal(0, 'n') = throws UnsupportedOperationException;
            """);
        Cases.Case force = cases.promise(22, "this ruling is in force");
        force.changesNothing("'l' at first", BLOCKED, "appeal(0, 'l') = throws UnsupportedOperationException;");
        force.changesNothing("'s' at first", "house(2, 2, 2, false, 's') = 0;" + Plays.blockedGame(0), """
            appeal(0, 's') = throws UnsupportedOperationException;
            """);
        force.changesNothing("'n' at first", "house(2, 2, 2, false, 'n') = 0;" + Plays.blockedGame(0), """
            appeal(0, 'n') = throws UnsupportedOperationException;
            """);
        force.changesNothing("by an appeal", BLOCKED + "appeal(0, 's') = 0;", """
            appeal(0, 's') = throws UnsupportedOperationException;
            """);
        force.changesNothing("listed first, behind a checkpoint", BLOCKED + "checkpoint() = 0;", """
            appeal(0, 'l') = throws UnsupportedOperationException;
            """);
        force.changesNothing("listed first, when there are 400 entries", FULL_BLOCKED, """
            appeal(5, 'l') = throws UnsupportedOperationException;
            """);
    }

    private void twoAppeals() {
        Cases.Case each = cases.promise(22, "or it had 2 appeals");
        String both = BLOCKED + "appeal(0, 's') = 0; appeal(0, 'n') = -1;";
        each.changesNothing("2", both, """
            appeal(0, 'l') = throws UnsupportedOperationException; appeal(0, 's') = throws
            UnsupportedOperationException; appeal(0, 'n') = throws UnsupportedOperationException;
            """);
        each.holds("the second, and one more", BLOCKED + """
            appeal(0, 'n') = -1; appeal(0, 'l') = 1; appeal(0, 's') = throws UnsupportedOperationException;
            winner(0) = 1; ruling(0) = l; entries() = 6;
            """);
        each.holds("appeals that a crash lost leave room", BLOCKED + "flush() = 4;" + Plays.times("""
            appeal(0, 's') = 0; appeal(0, 'n') = -1; appeal(0, 'l') = throws UnsupportedOperationException; crash() = 2;
            ruling(0) = l;
            """, 2) + "appeal(0, 'n') = -1; flush() = 1; crash() = 0; appeal(0, 'l') = 1; appeal(0, 's') = throws"
            + " UnsupportedOperationException;");
        each.holds("in a place where a game was that was lost", both + "crash() = 6;" + Plays.blockedGame(0)
            + "appeal(0, 's') = 0; appeal(0, 'n') = -1; appeal(0, 'l') = throws UnsupportedOperationException;");
        each.changesNothing("listed first, behind a checkpoint", both + "checkpoint() = 0;", """
            appeal(0, 'l') = throws UnsupportedOperationException;
            """);
        each.changesNothing("listed first, when there are 400 entries", FULL_TWO_APPEALS, """
            appeal(5, 'l') = throws UnsupportedOperationException;
            """);
    }

    private void appealsAndCheckpoints() {
        Cases.Case each = cases.promise(22, "Throws IllegalStateException if a checkpoint was made since its end");
        each.changesNothing("just behind the end", BLOCKED + "checkpoint() = 0;", """
            appeal(0, 's') = throws IllegalStateException; appeal(0, 'n') = throws IllegalStateException;
            """);
        each.changesNothing("behind one appeal", BLOCKED + "appeal(0, 's') = 0; checkpoint() = 0;", """
            appeal(0, 'n') = throws IllegalStateException; appeal(0, 'l') = throws IllegalStateException;
            """);
        each.changesNothing("the first of five, that a crash keeps", BLOCKED + """
            checkpoint() = 0; checkpoint() = 1; checkpoint() = 2; checkpoint() = 3; checkpoint() = 4; crash() = 0;
            """, "appeal(0, 's') = throws IllegalStateException;");
        each.holds("only before its end", "house(2, 2, 2, false, 'l') = 0; checkpoint() = 0;" + Plays.quickGame(0) + """
            checkpoint() = 1; lay(0, 3, true) = false; checkpoint() = 2; pass(0) = false; checkpoint() = 3;
            pass(0) = true; appeal(0, 's') = 0; appeal(0, 'n') = -1; checkpoint() = 4;
            """);
        each.holds("a checkpoint that was refused is none", BLOCKED + Plays.quickGame(1) + """
            bet(0, 1, 0, 1) = 1; checkpoint() = throws UnsupportedOperationException; appeal(0, 's') = 0;
            """);
        each.holds("the end of one game before, of another behind it", BLOCKED + Plays.quickGame(1) + """
            lay(1, 3, true) = false; pass(1) = false; checkpoint() = 0; pass(1) = true; appeal(1, 's') = 0;
            appeal(0, 's') = throws IllegalStateException; checkpoint() = 1; appeal(1, 'n') = throws
            IllegalStateException;
            """);
        each.holds("a game whose end a crash lost ends anew behind the checkpoint", Plays.QUICK_HOUSE
            + Plays.quickGame(0) + """
            lay(0, 3, true) = false; pass(0) = false; flush() = 3; pass(0) = true; crash() = 1; checkpoint() = 0;
            pass(0) = true; appeal(0, 's') = 0; crash() = 2; pass(0) = true; appeal(0, 'n') = -1;
            """);
    }

    private void appealsAndEntries() {
        Cases.Case each = cases.promise(22, "or there are 400 entries");
        each.holds("399, then 400", FullJournal.of(395) + game5() + """
            entries() = 399; appeal(5, 's') = 0; entries() = 400; entry(399) = a; gameOf(399) = 5;
            appeal(5, 'n') = throws IllegalStateException;
            """);
        each.changesNothing("400, no appeal yet", FULL_BLOCKED, """
            appeal(5, 's') = throws IllegalStateException; appeal(5, 'n') = throws IllegalStateException;
            """);
        each.changesNothing("400, one appeal", FULL_ONE_APPEAL, """
            appeal(5, 'l') = throws IllegalStateException; appeal(5, 'n') = throws IllegalStateException;
            """);
    }

    private void rulingInForce() {
        cases.promise(23, "Returns the ruling in force for a game.")
            .holds("each of the house, before the end", """
                house(2, 2, 1, true, 'l') = 0; house(2, 2, 1, true, 's') = 1; house(2, 2, 1, true, 'n') = 2;
                game(2, 0) = 0; game(1, 0) = 1; game(0, 0) = 2; ruling(0) = n; ruling(1) = s; ruling(2) = l;
                """)
            .holds("behind each appeal, and when a crash lost them", BLOCKED + """
                flush() = 4; ruling(0) = l; appeal(0, 's') = 0; ruling(0) = s; appeal(0, 'n') = -1; ruling(0) = n;
                crash() = 2; ruling(0) = l;
                """)
            .holds("of this game alone", BLOCKED + Plays.blockedGame(1) + "appeal(1, 'n') = -1; ruling(0) = l;"
                + "ruling(1) = n; game(0, 22) = 2; ruling(2) = l;");
    }
}
