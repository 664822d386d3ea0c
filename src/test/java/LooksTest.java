/** The boundary cases of the promises 7 to 16: what is asked of a game, and why. */
final class LooksTest {
    private static final String WON = Plays.ONE_TILE_HOUSE + Plays.wonGame(0);
    private static final String BLOCKED = Plays.QUICK_HOUSE + Plays.blockedGame(0);
    /** [2|1][1|0][0|0] lies. */
    private static final String THREE_TILES = """
        house(2, 2, 3, false, 'l') = 0; game(0, 1) = 0; lay(0, 0, true) = false; lay(0, 1, true) = false;
        lay(0, 4, true) = false;
        """;
    private static final String LONGEST_LINE = """
        house(6, 2, 2, true, 'l') = 0; game(0, 438975) = 0; lay(0, 11, true) = false; draw(0) = 0; draw(0) = 3;
        draw(0) = 10; lay(0, 10, true) = false; draw(0) = 5; lay(0, 5, false) = false; lay(0, 15, true) = false;
        draw(0) = 8; lay(0, 8, true) = false; lay(0, 0, false) = false; draw(0) = 24; draw(0) = 1;
        lay(0, 1, false) = false; draw(0) = 2; draw(0) = 26; draw(0) = 16; draw(0) = 19; draw(0) = 13; draw(0) = 14;
        draw(0) = 9; lay(0, 9, true) = false; lay(0, 18, true) = false; lay(0, 14, true) = false; draw(0) = 27;
        draw(0) = 4; draw(0) = 17; lay(0, 17, true) = false; lay(0, 26, true) = false; draw(0) = 25;
        lay(0, 25, true) = false; lay(0, 16, true) = false; draw(0) = 21; draw(0) = 23; draw(0) = 20; draw(0) = 7;
        lay(0, 7, false) = false; lay(0, 2, true) = false; lay(0, 4, true) = false; lay(0, 22, true) = false;
        lay(0, 24, true) = false; draw(0) = 12; lay(0, 12, false) = false; lay(0, 27, true) = false; draw(0) = 6;
        lay(0, 6, true) = false; lay(0, 21, false) = false; lay(0, 3, true) = false; lay(0, 20, false) = false;
        lay(0, 19, true) = false; lay(0, 23, false) = true;
        """;

    private final Cases cases;

    private LooksTest(Cases cases) {
        this.cases = cases;
    }

    static void run(Cases cases) {
        LooksTest test = new LooksTest(cases);
        test.movers();
        test.hands();
        test.stocks();
        test.ends();
        test.lines();
        test.places();
        test.turned();
        test.overAndBlocked();
        test.winners();
        test.whyOfNothing();
        test.depths();
        test.whyOfTheLast();
        test.whyWhatever();
        test.whyOfOtherExceptions();
    }

    private void movers() {
        cases.promise(7, "Returns whose turn it is.").holds("the first and the last player", """
            house(4, 4, 2, false, 'l') = 0; game(0, 171) = 0; mover(0) = 0; lay(0, 14, true) = false; mover(0) = 1;
            pass(0) = false; mover(0) = 2; pass(0) = false; mover(0) = 3; pass(0) = false; mover(0) = 0;
            """);
        cases.promise(7, "Throws IllegalStateException if it is over")
            .changesNothing("it was won", WON, "mover(0) = throws IllegalStateException;")
            .changesNothing("it was blocked", BLOCKED, "mover(0) = throws IllegalStateException;")
            .changesNothing("an appeal ruled that nobody won", BLOCKED + "appeal(0, 'n') = -1;", """
                mover(0) = throws IllegalStateException;
                """)
            .holds("just before the end, and when a crash lost the end", Plays.QUICK_HOUSE + Plays.quickGame(0) + """
                lay(0, 3, true) = false; pass(0) = false; mover(0) = 0; flush() = 3; pass(0) = true;
                mover(0) = throws IllegalStateException; crash() = 1; mover(0) = 0;
                """);
    }

    private void hands() {
        cases.promise(8, "player: the player").holds("the first and the last one", """
            house(2, 2, 3, false, 'l') = 0; house(6, 4, 7, false, 'l') = 1; game(0, 0) = 0; game(1, 0) = 1;
            hand(0, 0) = 22; hand(0, 1) = 41; hand(1, 0) = 11584576; hand(1, 3) = 4587673;
            """);
        Cases.Case each = cases.promise(8, "Throws IndexOutOfBoundsException if there is no such game or player");
        each.changesNothing("of two players, one beyond on either side, and far beyond", Plays.DRAWN_GAME, """
            hand(0, 2) = throws IndexOutOfBoundsException; hand(0, -1) = throws IndexOutOfBoundsException;
            hand(0, 3) = throws IndexOutOfBoundsException; hand(0, 2147483647) = throws IndexOutOfBoundsException;
            hand(0, -2147483648) = throws IndexOutOfBoundsException;
            """);
        each.changesNothing("of four players, one beyond on either side", """
            house(6, 4, 7, false, 'l') = 0; game(0, 0) = 0;
            """, "hand(0, 4) = throws IndexOutOfBoundsException; hand(0, -1) = throws IndexOutOfBoundsException;");
        each.changesNothing("neither game nor player", Plays.DRAWN_GAME,
            "hand(1, 2) = throws IndexOutOfBoundsException;");
        cases.promise(8, "Returns the sum of 2 to the power of each number.")
            .holds("no tile", WON + "hand(0, 0) = 0; hand(0, 1) = 16;")
            .holds("the least tile alone, and the greatest one of the greatest set", """
                house(2, 2, 1, true, 'l') = 0; house(6, 2, 1, true, 'l') = 1; game(0, 1) = 0; hand(0, 0) = 1;
                hand(0, 1) = 32; game(1, 15) = 1; hand(1, 0) = 134217728;
                """);
    }

    private void stocks() {
        cases.promise(9, "Returns how many tiles the stock has.")
            .holds("none at first", "house(2, 2, 3, true, 'l') = 0; game(0, 0) = 0; stock(0) = 0;")
            .holds("the most", "house(6, 2, 1, true, 'l') = 0; game(0, 0) = 0; stock(0) = 26;")
            .holds("until none is left", Plays.DRAWN_GAME + """
                stock(0) = 2; lay(0, 0, true) = false; lay(0, 2, true) = false; draw(0) = 4; stock(0) = 1;
                lay(0, 4, true) = false; draw(0) = 1; stock(0) = 0;
                """);
    }

    private void ends() {
        cases.promise(10, "isLeft: whether the left one").holds("the left and the right one", THREE_TILES + """
            end(0, true) = 2; end(0, false) = 0;
            """);
        cases.promise(10, "Throws NoSuchElementException if no tile lies")
            .changesNothing("no tile", Plays.DRAWN_GAME, """
                end(0, true) = throws NoSuchElementException; end(0, false) = throws NoSuchElementException;
                """)
            .changesNothing("a crash lost the only tile", Plays.DRAWN_GAME
                + "flush() = 1; lay(0, 0, true) = false; crash() = 1;", """
                end(0, true) = throws NoSuchElementException; end(0, false) = throws NoSuchElementException;
                """)
            .holds("one tile", """
                house(2, 2, 3, false, 'l') = 0; game(0, 1) = 0; lay(0, 4, true) = false; end(0, true) = 1;
                end(0, false) = 2;
                """)
            .holds("the least and the greatest number", """
                house(6, 2, 7, true, 'l') = 0; game(0, 0) = 0; lay(0, 6, true) = false; end(0, true) = 0;
                end(0, false) = 6;
                """);
    }

    private void lines() {
        cases.promise(11, "Returns how long the line is, written: for each tile from the left '[', the number to the"
            + " left, '|', that to the right, ']'.")
            .holds("no tile, one tile, three tiles", """
                house(2, 2, 3, false, 'l') = 0; game(0, 1) = 0; line(0) = 0; lay(0, 0, true) = false; line(0) = 5;
                lay(0, 1, true) = false; line(0) = 10; lay(0, 4, true) = false; line(0) = 15;
                """)
            .holds("26 tiles", FullJournal.of(200) + "line(0) = 130; line(4) = 0;")
            .holds("27 tiles, as the game is over before all 28 lie", LONGEST_LINE + """
                line(0) = 135; sign(0, 0, false) = [; sign(0, 1, false) = 4; sign(0, 3, false) = 3;
                sign(0, 131, false) = 5; sign(0, 133, false) = 4; sign(0, 134, false) = ];
                sign(0, 135, false) = throws NoSuchElementException; sign(0, 3, true) = 5; sign(0, 131, true) = 3;
                sign(0, 134, true) = ]; sign(0, 135, true) = throws NoSuchElementException; end(0, true) = 4;
                end(0, false) = 4; winner(0) = 0; hand(0, 0) = 0; hand(0, 1) = 8192; stock(0) = 0; checkpoint() = 0;
                replay(0) = 215375938720756; replay(-1) = 215375938720756;
                """);
    }

    private void places() {
        cases.promise(12, "place: the place, from 0").holds("the first and the last one", THREE_TILES + """
            sign(0, 0, false) = [; sign(0, 1, false) = 2; sign(0, 2, false) = |; sign(0, 3, false) = 1;
            sign(0, 4, false) = ]; sign(0, 5, false) = [; sign(0, 6, false) = 1; sign(0, 7, false) = |;
            sign(0, 8, false) = 0; sign(0, 9, false) = ]; sign(0, 10, false) = [; sign(0, 11, false) = 0;
            sign(0, 12, false) = |; sign(0, 13, false) = 0; sign(0, 14, false) = ];
            """);
        Cases.Case each = cases.promise(12, "Throws NoSuchElementException if there is no such sign");
        String beyond = """
            sign(0, -1, @) = throws NoSuchElementException; sign(0, 15, @) = throws NoSuchElementException;
            sign(0, 16, @) = throws NoSuchElementException; sign(0, -5, @) = throws NoSuchElementException;
            sign(0, -2147483648, @) = throws NoSuchElementException;
            sign(0, 2147483647, @) = throws NoSuchElementException;
            """;
        each.changesNothing("one beyond on either side, and far beyond", THREE_TILES, beyond.replace("@", "false"));
        each.changesNothing("from the other side", THREE_TILES, beyond.replace("@", "true"));
        each.changesNothing("no tile", Plays.DRAWN_GAME, """
            sign(0, 0, false) = throws NoSuchElementException; sign(0, 0, true) = throws NoSuchElementException;
            """);
        each.changesNothing("a crash lost the last tile", """
            house(2, 2, 3, false, 'l') = 0; game(0, 1) = 0; lay(0, 0, true) = false; flush() = 2;
            lay(0, 1, true) = false; crash() = 1;
            """, """
            sign(0, 5, false) = throws NoSuchElementException; sign(0, 5, true) = throws NoSuchElementException;
            """);
        each.holds("the last of 130 signs, and one beyond", FullJournal.of(200) + """
            sign(0, 128, false) = 1; sign(0, 129, false) = ]; sign(0, 130, false) = throws NoSuchElementException;
            sign(0, 129, true) = ]; sign(0, 128, true) = 2; sign(0, 1, true) = 1; sign(0, 1, false) = 2;
            sign(0, 130, true) = throws NoSuchElementException;
            """);
        cases.promise(12, "Throws IndexOutOfBoundsException if there is no such game")
            .changesNothing("listed first, when there is no such sign", THREE_TILES, """
                sign(1, -1, false) = throws IndexOutOfBoundsException; sign(-1, 15, true) = throws
                IndexOutOfBoundsException; sign(1, 0, false) = throws IndexOutOfBoundsException;
                """);
    }

    private void turned() {
        cases.promise(12,
            "isTurned: whether the line is looked at from the other side: the last tile first, each turned,"
            + " the brackets as they are")
            .holds("one tile", """
                house(2, 2, 3, false, 'l') = 0; game(0, 1) = 0; lay(0, 4, true) = false; sign(0, 0, true) = [;
                sign(0, 1, true) = 2; sign(0, 2, true) = |; sign(0, 3, true) = 1; sign(0, 4, true) = ];
                sign(0, 1, false) = 1; sign(0, 3, false) = 2;
                """)
            .holds("three tiles, to the first and the last sign", THREE_TILES + """
                sign(0, 0, true) = [; sign(0, 1, true) = 0; sign(0, 2, true) = |; sign(0, 3, true) = 0;
                sign(0, 4, true) = ]; sign(0, 5, true) = [; sign(0, 6, true) = 0; sign(0, 7, true) = |;
                sign(0, 8, true) = 1; sign(0, 9, true) = ]; sign(0, 10, true) = [; sign(0, 11, true) = 1;
                sign(0, 12, true) = |; sign(0, 13, true) = 2; sign(0, 14, true) = ];
                """);
    }

    private void overAndBlocked() {
        cases.promise(13, "Tells whether a game is over.").holds("just before the end, and behind it", Plays.QUICK_HOUSE
            + Plays.quickGame(0) + """
            isOver(0) = false; lay(0, 3, true) = false; pass(0) = false; isOver(0) = false; pass(0) = true;
            isOver(0) = true; appeal(0, 'n') = -1; isOver(0) = true;
            """).holds("by the last tile", WON + "isOver(0) = true;");
        cases.promise(14, "Tells whether a game was blocked.").holds("just before the end, and behind it",
            Plays.QUICK_HOUSE + Plays.quickGame(0) + """
            isBlocked(0) = false; lay(0, 3, true) = false; pass(0) = false; isBlocked(0) = false; pass(0) = true;
            isBlocked(0) = true; appeal(0, 'n') = -1; isBlocked(0) = true;
            """).holds("it was won", WON + "isBlocked(0) = false;");
    }

    private void winners() {
        cases.promise(15, "Returns the player, -1 for nobody.")
            .holds("the first player", WON + "winner(0) = 0;")
            .holds("the last player of four", """
                house(4, 4, 2, false, 'l') = 0; game(0, 171) = 0; lay(0, 14, true) = false; pass(0) = false;
                pass(0) = false; pass(0) = false; pass(0) = true; winner(0) = 3;
                """)
            .holds("nobody", "house(2, 2, 2, false, 'n') = 0;" + Plays.blockedGame(0) + "winner(0) = -1;");
        cases.promise(15, "Throws NoSuchElementException if it is not over")
            .changesNothing("at first", Plays.DRAWN_GAME, "winner(0) = throws NoSuchElementException;")
            .changesNothing("just before the end", Plays.DRAWN_GAME + Plays.DRAWN_BUT_LAST, """
                winner(0) = throws NoSuchElementException;
                """)
            .changesNothing("a crash lost the end", Plays.DRAWN_GAME + Plays.DRAWN_BUT_LAST
                + "flush() = 8; pass(0) = true; winner(0) = 0; crash() = 1;", """
                winner(0) = throws NoSuchElementException;
                """);
    }

    private void whyOfNothing() {
        Cases.Case each = cases.promise(16, "Throws NoSuchElementException if none was refused, or there is no cause so"
            + " deep");
        each.changesNothing("nothing was refused", Plays.DRAWN_GAME, """
            why(0) = throws NoSuchElementException; why(1) = throws NoSuchElementException;
            why(-1) = throws NoSuchElementException; why(2147483647) = throws NoSuchElementException;
            """);
        each.changesNothing("'h' has no cause", Plays.DRAWN_GAME + "lay(0, 2, true) = throws"
            + " UnsupportedOperationException;", """
            why(0) = h; why(1) = throws NoSuchElementException; why(2) = throws NoSuchElementException;
            why(-1) = throws NoSuchElementException;
            """);
        each.changesNothing("'f' has one", Plays.DRAWN_GAME + "lay(0, 0, true) = false; lay(0, 5, true) = throws"
            + " UnsupportedOperationException;", """
            why(0) = f; why(1) = 0; why(2) = throws NoSuchElementException; why(-1) = throws NoSuchElementException;
            """);
        each.changesNothing("'h' behind 'f' has none", Plays.DRAWN_GAME + "lay(0, 0, true) = false; lay(0, 5, true) ="
            + " throws UnsupportedOperationException; lay(0, 0, true) = throws UnsupportedOperationException;", """
            why(0) = h; why(1) = throws NoSuchElementException;
            """);
    }

    private void depths() {
        cases.promise(16, "depth: the depth, from 0").changesNothing("one beyond on either side, and far beyond",
            Plays.DRAWN_GAME + "lay(0, 0, true) = false; lay(0, 5, true) = throws UnsupportedOperationException;", """
            why(0) = f; why(1) = 0; why(-1) = throws NoSuchElementException; why(2) = throws NoSuchElementException;
            why(3) = throws NoSuchElementException; why(-2147483648) = throws NoSuchElementException;
            why(2147483647) = throws NoSuchElementException;
            """);
        cases.promise(16, "as the cause of this the number at the end where it was to be, as a digit")
            .holds("the least and the greatest number", """
                house(6, 2, 7, true, 'l') = 0; game(0, 0) = 0; hand(0, 1) = 185147904; lay(0, 6, true) = false;
                lay(0, 9, true) = throws UnsupportedOperationException; why(0) = f; why(1) = 0;
                lay(0, 9, false) = throws UnsupportedOperationException; why(0) = f; why(1) = 6;
                """)
            .holds("the other end", """
                house(2, 2, 2, true, 'l') = 0; game(0, 4) = 0; lay(0, 2, true) = false;
                lay(0, 3, true) = throws UnsupportedOperationException; why(1) = 0;
                lay(0, 3, false) = throws UnsupportedOperationException; why(1) = 2;
                """);
    }

    private void whyOfTheLast() {
        Cases.Case each = cases.promise(16, "'h' it was not in the hand, 'f' it did not fit");
        each.holds("neither in the hand nor fitting", Plays.DRAWN_GAME + """
            lay(0, 0, true) = false; lay(0, 3, true) = throws UnsupportedOperationException; why(0) = h;
            """);
        each.holds("not in the hand, while no tile lies", Plays.DRAWN_GAME + """
            lay(0, 5, true) = throws UnsupportedOperationException; why(0) = h; why(1) = throws NoSuchElementException;
            """);
        cases.promise(16, "Tells why the last tile, of any game, that could not be laid was refused")
            .holds("of another game", Plays.DRAWN_GAME + """
                game(0, 4) = 1; lay(1, 2, true) = false; lay(1, 3, false) = throws UnsupportedOperationException;
                why(0) = f; why(1) = 2; lay(0, 2, true) = throws UnsupportedOperationException; why(0) = h;
                why(1) = throws NoSuchElementException; lay(1, 3, true) = throws UnsupportedOperationException;
                why(0) = f; why(1) = 0;
                """);
    }

    private void whyWhatever() {
        String refused = Plays.DRAWN_GAME + """
            flush() = 1; game(0, 2) = 1; lay(1, 1, true) = false; lay(1, 4, true) = throws
            UnsupportedOperationException; why(0) = f; why(1) = 0;
            """;
        cases.promise(16, "whatever was laid or lost since")
            .holds("this very tile was laid", refused + "lay(1, 4, false) = false; why(0) = f; why(1) = 0;")
            .holds("the tile at the end was lost", refused + "crash() = 2; why(0) = f; why(1) = 0;")
            .holds("another tile lies at the end", refused + """
                lay(1, 4, false) = false; lay(1, 0, true) = true; why(0) = f; why(1) = 0;
                """)
            .holds("the game was lost, and another one begun in its place", refused + """
                crash() = 2; game(0, 10) = 1; lay(1, 0, true) = false; why(0) = f; why(1) = 0;
                """)
            .holds("a flush, a checkpoint, replays", refused + """
                flush() = 2; checkpoint() = 0; isSound() = true; crash() = 0; why(0) = f; why(1) = 0;
                """);
    }

    private void whyOfOtherExceptions() {
        String refused = Plays.DRAWN_GAME + "lay(0, 2, true) = throws UnsupportedOperationException;"
            + "lay(0, 0, true) = false;";
        cases.promise(16, "refused by UnsupportedOperation")
            .holds("no other exception, and no other call", refused + """
                lay(0, 6, true) = throws IllegalArgumentException; lay(1, 0, true) = throws IndexOutOfBoundsException;
                draw(0) = throws UnsupportedOperationException; pass(0) = throws UnsupportedOperationException;
                appeal(0, 's') = throws UnsupportedOperationException; bet(0, 0, 0, 1) = 1;
                checkpoint() = throws UnsupportedOperationException; why(0) = h; why(1) = throws NoSuchElementException;
                """)
            .holds("a tile of a game that is over", Plays.QUICK_HOUSE + Plays.blockedGame(0) + """
                lay(0, 0, true) = throws IllegalStateException; why(0) = throws NoSuchElementException;
                """)
            .holds("only other exceptions", Plays.DRAWN_GAME + """
                lay(0, -1, true) = throws IllegalArgumentException; lay(1, 0, true) = throws IndexOutOfBoundsException;
                draw(0) = throws UnsupportedOperationException; pass(0) = throws UnsupportedOperationException;
                why(0) = throws NoSuchElementException;
                """);
    }
}
