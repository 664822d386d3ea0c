/** The boundary cases of the promises 1 to 3: a new object, house, game. */
final class HousesTest {
    private static final int[] SIZES = {0, 0, 6, 10, 15, 21, 28};
    private static final String FOUR_HOUSES = """
        house(2, 2, 1, true, 'l') = 0; house(3, 2, 2, false, 's') = 1; house(6, 4, 7, true, 'n') = 2;
        house(2, 2, 3, false, 'l') = 3;
        """;
    private static final String SIX_GAMES = """
        house(2, 2, 1, true, 'l') = 0; game(0, 0) = 0; game(0, 1) = 1; game(0, 2) = 2; game(0, 3) = 3; game(0, 4) = 4;
        game(0, 5) = 5;
        """;

    private final Cases cases;

    private HousesTest(Cases cases) {
        this.cases = cases;
    }

    static void run(Cases cases) {
        HousesTest test = new HousesTest(cases);
        test.newObject();
        test.numbersOfHouses();
        test.rulings();
        test.tilesEnough();
        test.housesRefused();
        test.houseOutlivesCrash();
        test.gamesOfHouses();
        test.seeds();
        test.gamesRefused();
    }

    private void newObject() {
        Cases.Case each = cases.promise(1, "Creates a club without houses, games and entries.");
        each.changesNothing("no house", "", """
            game(0, 0) = throws IndexOutOfBoundsException; game(-1, 0) = throws IndexOutOfBoundsException;
            """);
        each.changesNothing("no game", "", """
            lay(0, 0, true) = throws IndexOutOfBoundsException; draw(0) = throws IndexOutOfBoundsException;
            pass(0) = throws IndexOutOfBoundsException; mover(0) = throws IndexOutOfBoundsException;
            hand(0, 0) = throws IndexOutOfBoundsException; stock(0) = throws IndexOutOfBoundsException;
            end(0, true) = throws IndexOutOfBoundsException; line(0) = throws IndexOutOfBoundsException;
            sign(0, 0, false) = throws IndexOutOfBoundsException; isOver(0) = throws IndexOutOfBoundsException;
            isBlocked(0) = throws IndexOutOfBoundsException; winner(0) = throws IndexOutOfBoundsException;
            bet(0, 0, 0, 1) = throws IndexOutOfBoundsException; pool(0) = throws IndexOutOfBoundsException;
            paid(0, 0) = throws IndexOutOfBoundsException; appeal(0, 's') = throws IndexOutOfBoundsException;
            ruling(0) = throws IndexOutOfBoundsException; playedShare() = throws NoSuchElementException;
            """);
        each.changesNothing("no entry, no checkpoint, nothing refused", "", """
            entries() = 0; loose() = 0; entry(0) = throws NoSuchElementException;
            gameOf(0) = throws NoSuchElementException; flush() = 0; crash() = 0;
            behind(0) = throws IndexOutOfBoundsException; replay(0) = throws IndexOutOfBoundsException;
            replay(-1) = 295834457; checksum() = 295834457; why(0) = throws NoSuchElementException; club() = 0;
            purse(0) = 100; purse(3) = 100; meanPurse() = 100.0; isSound() = true;
            """);
        each.holds("the first of each is numbered 0", Plays.DRAWN_HOUSE + "game(0, 10) = 0; checkpoint() = 0;");
        Caller used = new Caller();
        for (Rows.Row row : Rows.of(FOUR_HOUSES + "game(0, 1) = 0; game(1, 1) = 1; checkpoint() = 0;")) {
            used.ask(row.call());
        }
        each.holds("while another one is used", """
            entries() = 0; game(0, 0) = throws IndexOutOfBoundsException; behind(0) = throws IndexOutOfBoundsException;
            """);
    }

    private void numbersOfHouses() {
        cases.promise(2, "pips: to how many pips its set goes, 2 to 6")
            .holds("the least and the greatest", """
                house(2, 2, 1, true, 'l') = 0; house(6, 2, 1, true, 'l') = 1; game(0, 0) = 0; stock(0) = 4;
                game(1, 0) = 1; stock(1) = 26;
                """)
            .changesNothing("one beyond on either side, and far beyond", Plays.DRAWN_GAME, """
                house(1, 2, 1, true, 'l') = throws IllegalArgumentException;
                house(7, 2, 1, true, 'l') = throws IllegalArgumentException;
                house(0, 2, 1, true, 'l') = throws IllegalArgumentException;
                house(-1, 2, 1, true, 'l') = throws IllegalArgumentException;
                house(-2147483648, 2, 1, true, 'l') = throws IllegalArgumentException;
                house(2147483647, 2, 1, true, 'l') = throws IllegalArgumentException;
                """);
        cases.promise(2, "players: how many players, 2 to 4")
            .holds("the least and the greatest", """
                house(6, 2, 1, true, 'l') = 0; house(6, 4, 1, true, 'l') = 1; game(0, 0) = 0; game(1, 0) = 1;
                hand(0, 2) = throws IndexOutOfBoundsException; hand(1, 3) = 2097152;
                hand(1, 4) = throws IndexOutOfBoundsException; stock(1) = 24;
                """)
            .changesNothing("one beyond on either side, and far beyond", Plays.DRAWN_GAME, """
                house(6, 1, 1, true, 'l') = throws IllegalArgumentException;
                house(6, 5, 1, true, 'l') = throws IllegalArgumentException;
                house(6, 0, 1, true, 'l') = throws IllegalArgumentException;
                house(6, -1, 1, true, 'l') = throws IllegalArgumentException;
                house(6, -2147483648, 1, true, 'l') = throws IllegalArgumentException;
                house(6, 2147483647, 1, true, 'l') = throws IllegalArgumentException;
                house(6, -2147483648, 2, true, 'l') = throws IllegalArgumentException;
                """);
        cases.promise(2, "tiles: how many tiles each gets, 1 to 7")
            .holds("the least and the greatest", """
                house(6, 2, 1, true, 'l') = 0; house(6, 2, 7, true, 'l') = 1; game(0, 0) = 0; stock(0) = 26;
                game(1, 0) = 1; stock(1) = 14;
                """)
            .changesNothing("one beyond on either side, and far beyond", Plays.DRAWN_GAME, """
                house(6, 2, 0, true, 'l') = throws IllegalArgumentException;
                house(6, 2, 8, true, 'l') = throws IllegalArgumentException;
                house(6, 2, -1, true, 'l') = throws IllegalArgumentException;
                house(6, 2, -2147483648, true, 'l') = throws IllegalArgumentException;
                house(6, 2, 2147483647, true, 'l') = throws IllegalArgumentException;
                house(6, 4, 1073741824, true, 'l') = throws IllegalArgumentException;
                """);
        cases.promise(2, "areDraws: whether there are draws").holds("there are, and there are none", """
            house(2, 2, 2, true, 'l') = 0; house(2, 2, 2, false, 'l') = 1; game(0, 22) = 0; game(1, 22) = 1;
            lay(0, 3, true) = false; lay(1, 3, true) = false; draw(0) = 1;
            draw(1) = throws UnsupportedOperationException;
            pass(1) = false;
            """);
    }

    private void rulings() {
        cases.promise(2, "ruling: 'l', 's' or 'n'")
            .holds("the three", """
                house(2, 2, 1, true, 'l') = 0; house(2, 2, 1, true, 's') = 1; house(2, 2, 1, true, 'n') = 2;
                game(0, 0) = 0; game(1, 0) = 1; game(2, 0) = 2; ruling(0) = l; ruling(1) = s; ruling(2) = n;
                """)
            .changesNothing("the letters beside them, and others", Plays.DRAWN_GAME, """
                house(2, 2, 1, true, 'k') = throws IllegalArgumentException;
                house(2, 2, 1, true, 'm') = throws IllegalArgumentException;
                house(2, 2, 1, true, 'o') = throws IllegalArgumentException;
                house(2, 2, 1, true, 'r') = throws IllegalArgumentException;
                house(2, 2, 1, true, 't') = throws IllegalArgumentException;
                house(2, 2, 1, true, 'L') = throws IllegalArgumentException;
                house(2, 2, 1, true, 'S') = throws IllegalArgumentException;
                house(2, 2, 1, true, 'N') = throws IllegalArgumentException;
                house(2, 2, 1, true, (char) 0) = throws IllegalArgumentException;
                house(2, 2, 1, true, (char) 364) = throws IllegalArgumentException;
                house(2, 2, 1, true, (char) 65535) = throws IllegalArgumentException;
                """);
    }

    /** Every house: the set has just enough tiles, or too few. */
    private void tilesEnough() {
        Cases.Case each = cases.promise(2, "or the set has not so many tiles");
        for (int pips = 2; pips <= 6; pips++) {
            for (int players = 2; players <= 4; players++) {
                for (int tiles = 1; tiles <= 7; tiles++) {
                    boolean isEnough = players * tiles <= SIZES[pips];
                    String call = "house(" + pips + ", " + players + ", " + tiles + ", true, 'l')";
                    each.due(call, isEnough ? "0" : "throws IllegalArgumentException",
                            new Caller().ask(call));
                }
            }
        }
        each.changesNothing("one tile too few", Plays.DRAWN_GAME, """
            house(4, 4, 4, true, 'l') = throws IllegalArgumentException;
            house(5, 4, 6, true, 'l') = throws IllegalArgumentException;
            house(2, 2, 4, true, 'l') = throws IllegalArgumentException;
            house(3, 4, 3, true, 'l') = throws IllegalArgumentException;
            """);
    }

    private void housesRefused() {
        cases.promise(2, "Throws IllegalArgumentException if a number is out of range, there is no such ruling,")
            .changesNothing("listed first, when there are 4 houses", FOUR_HOUSES, """
                house(1, 2, 1, true, 'l') = throws IllegalArgumentException;
                house(7, 2, 1, true, 'l') = throws IllegalArgumentException;
                house(2, 1, 1, true, 'l') = throws IllegalArgumentException;
                house(2, 5, 1, true, 'l') = throws IllegalArgumentException;
                house(2, 2, 0, true, 'l') = throws IllegalArgumentException;
                house(6, 2, 8, true, 'l') = throws IllegalArgumentException;
                house(2, 2, 1, true, 'x') = throws IllegalArgumentException;
                house(2, 2, 4, true, 'l') = throws IllegalArgumentException;
                """);
        cases.promise(2, "Throws IllegalStateException if there are 4")
            .holds("three, four, and one more", FOUR_HOUSES + """
                house(2, 2, 1, true, 'l') = throws IllegalStateException; game(3, 0) = 0;
                game(4, 0) = throws IndexOutOfBoundsException;
                """)
            .changesNothing("four", FOUR_HOUSES + "game(3, 0) = 0;", """
                house(2, 2, 1, true, 'l') = throws IllegalStateException;
                house(6, 4, 7, false, 'n') = throws IllegalStateException;
                """);
    }

    private void houseOutlivesCrash() {
        Cases.Case each = cases.promise(2, "Adds a house; houses are no entries of the journal.");
        each.holds("no entry, and a crash keeps them",
            FOUR_HOUSES + """
            entries() = 0; loose() = 0; flush() = 0; crash() = 0; house(2, 2, 1, true, 'l') = throws
            IllegalStateException; game(2, 0) = 0; crash() = 1; game(3, 0) = 0; ruling(0) = l; entries() = 1;
            """);
        each.holds("400 entries are no bar",
            FullJournal.of(400).replace("house(2, 2, 2, true, 'l') = 3;", "") + """
            house(1, 2, 2, true, 'l') = throws IllegalArgumentException; house(2, 2, 2, true, 'l') = 3;
            house(2, 2, 2, true, 'l') = throws IllegalStateException; entries() = 400;
            """);
    }

    private void gamesOfHouses() {
        cases.promise(3, "house: the number of the house").holds("the least and the greatest", FOUR_HOUSES + """
            game(0, 0) = 0; game(3, 0) = 1; stock(0) = 4; stock(1) = 0; hand(1, 0) = 22;
            """);
        cases.promise(3, "Throws IndexOutOfBoundsException if there is no such house")
            .changesNothing("one beyond on either side, and far beyond", FOUR_HOUSES + "game(3, 1) = 0;", """
                game(-1, 0) = throws IndexOutOfBoundsException; game(4, 0) = throws IndexOutOfBoundsException;
                game(-2147483648, 0) = throws IndexOutOfBoundsException;
                game(2147483647, 0) = throws IndexOutOfBoundsException;
                """)
            .changesNothing("no house", "", "game(0, 0) = throws IndexOutOfBoundsException;")
            .changesNothing("of one house, the next one", Plays.DRAWN_GAME, """
                game(1, 0) = throws IndexOutOfBoundsException;
                """)
            .changesNothing("listed first, when the seed is out of range", Plays.DRAWN_GAME, """
                game(1, -1) = throws IndexOutOfBoundsException; game(-1, 1000000) = throws IndexOutOfBoundsException;
                """)
            .changesNothing("listed first, when there are 6 games", SIX_GAMES, """
                game(1, 0) = throws IndexOutOfBoundsException; game(-1, -1) = throws IndexOutOfBoundsException;
                """)
            .changesNothing("listed first, when there are 400 entries", FullJournal.of(400), """
                game(4, 0) = throws IndexOutOfBoundsException; game(-1, 1000000) = throws IndexOutOfBoundsException;
                """);
    }

    private void seeds() {
        cases.promise(3, "seed: the seed, 0 to 999999").holds("the least and the greatest", """
            house(6, 2, 7, false, 'l') = 0; game(0, 0) = 0; hand(0, 0) = 11584576; game(0, 999999) = 1;
            hand(1, 0) = 61350912;
            """);
        cases.promise(3, "Throws IllegalArgumentException if the seed is out of range")
            .changesNothing("one beyond on either side, and far beyond", Plays.DRAWN_GAME, """
                game(0, -1) = throws IllegalArgumentException; game(0, 1000000) = throws IllegalArgumentException;
                game(0, -2147483648) = throws IllegalArgumentException;
                game(0, 2147483647) = throws IllegalArgumentException;
                """)
            .changesNothing("listed first, when there are 6 games", SIX_GAMES, """
                game(0, -1) = throws IllegalArgumentException; game(0, 1000000) = throws IllegalArgumentException;
                """)
            .changesNothing("listed first, when there are 400 entries", FullJournal.of(400), """
                game(0, -1) = throws IllegalArgumentException; game(3, 1000000) = throws IllegalArgumentException;
                """);
    }

    private void gamesRefused() {
        Cases.Case each = cases.promise(3, "Throws IllegalStateException if there are 6, or 400 entries");
        each.holds("six, and one more", SIX_GAMES + """
            game(0, 6) = throws IllegalStateException; entries() = 6; mover(5) = 0;
            mover(6) = throws IndexOutOfBoundsException;
            """);
        each.holds("games that a crash lost leave room", "house(2, 2, 1, true, 'l') = 0; game(0, 9) = 0; flush() = 1;"
            + Plays.times("game(0, 1) = 1; game(0, 2) = 2; game(0, 3) = 3; game(0, 4) = 4; game(0, 5) = 5;"
            + "game(0, 6) = throws IllegalStateException; crash() = 5;", 2) + "game(0, 0) = 1; hand(1, 0) = 4;");
        each.changesNothing("six", SIX_GAMES, """
            game(0, 6) = throws IllegalStateException; game(0, 0) = throws IllegalStateException;
            game(0, 999999) = throws IllegalStateException;
            """);
        each.holds("399 entries and five games, then 400", FullJournal.of(399) + """
            entries() = 399; game(3, 10) = 5; entries() = 400; mover(5) = 0; entry(399) = g; gameOf(399) = 5;
            """);
        each.changesNothing("400 entries and five games", FullJournal.of(400), """
            game(0, 0) = throws IllegalStateException; game(3, 999999) = throws IllegalStateException;
            """);
    }
}
