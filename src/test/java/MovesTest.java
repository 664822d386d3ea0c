/** The boundary cases of the promises 4 to 6: lay, draw, pass. */
final class MovesTest {
    private static final String WON = Plays.ONE_TILE_HOUSE + Plays.wonGame(0);
    private static final String BLOCKED = Plays.QUICK_HOUSE + Plays.blockedGame(0);
    private static final String OVER = "if it is over, or there are 400 entries";

    /** 400 entries; who moves in the game 5 has tiles that could be laid. */
    private static final String FULL_TO_LAY = FullJournal.of(398) + "game(3, 10) = 5; lay(5, 0, true) = false;";
    /** 400 entries; who moves in the game 5 could draw a tile. */
    private static final String FULL_TO_DRAW = FullJournal.of(397) + """
        game(3, 10) = 5; lay(5, 0, true) = false; lay(5, 2, true) = false;
        """;
    /** 400 entries; who moves in the game 5 could pass. */
    private static final String FULL_TO_PASS = FullJournal.of(398) + "game(2, 22) = 5; lay(5, 3, true) = false;";

    private final Cases cases;

    private MovesTest(Cases cases) {
        this.cases = cases;
    }

    static void run(Cases cases) {
        MovesTest test = new MovesTest(cases);
        test.tiles();
        test.sides();
        test.lastTile();
        test.noSuchTile();
        test.layWhenOver();
        test.notInHand();
        test.notFitting();
        test.drawn();
        test.drawWhenOver();
        test.drawRefused();
        test.passed();
        test.passWhenOver();
        test.passRefused();
    }

    private void tiles() {
        cases.promise(4, "tile: the number of the tile")
            .holds("the least and the greatest of the least set", """
                house(2, 2, 3, false, 'l') = 0; game(0, 1) = 0; lay(0, 0, true) = false; game(0, 1) = 1;
                lay(1, 5, true) = false; end(1, true) = 2; end(1, false) = 2; hand(1, 0) = 17;
                """)
            .holds("the least and the greatest of the greatest set", """
                house(6, 2, 7, true, 'l') = 0; game(0, 27) = 0; hand(0, 0) = 168067121; lay(0, 27, true) = false;
                end(0, true) = 6; end(0, false) = 6; hand(0, 0) = 33849393; game(0, 27) = 1; lay(1, 0, true) = false;
                end(1, true) = 0; end(1, false) = 0; hand(1, 0) = 168067120;
                """)
            .changesNothing("the greatest one of the set, in no hand of the mover", """
                house(6, 2, 7, true, 'l') = 0; game(0, 0) = 0;
                """, "lay(0, 27, true) = throws UnsupportedOperationException;");
    }

    private void sides() {
        Cases.Case each = cases.promise(4, "isLeft: whether at the left end; of no meaning for the first tile");
        each.holds("the first tile, at the left and at the right", """
            house(2, 2, 3, false, 'l') = 0; game(0, 1) = 0; game(0, 1) = 1; lay(0, 4, true) = false;
            lay(1, 4, false) = false; sign(0, 1, false) = 1; sign(0, 3, false) = 2; sign(1, 1, false) = 1;
            sign(1, 3, false) = 2;
            """);
        each.holds("the second tile, that fits at both ends", """
            house(2, 2, 3, false, 'l') = 0; game(0, 1) = 0; game(0, 1) = 1; lay(0, 0, true) = false;
            lay(1, 0, false) = false; lay(0, 1, true) = false; lay(1, 1, false) = false; end(0, true) = 1;
            end(0, false) = 0; end(1, true) = 0; end(1, false) = 1;
            """);
    }

    private void lastTile() {
        Cases.Case each = cases.promise(4, "Returns whether the game is over by it.");
        each.holds("the only tile", WON + "isOver(0) = true;");
        each.holds("one of two, then the last one", """
            house(2, 2, 2, false, 's') = 0; game(0, 6) = 0; lay(0, 1, true) = false; isOver(0) = false;
            lay(0, 4, false) = false; pass(0) = false; lay(0, 5, false) = true; isOver(0) = true; winner(0) = 1;
            """);
        cases.promise(4, "Lays a tile, for the player whose turn it is.").holds("from this hand alone", """
            house(2, 2, 3, false, 'l') = 0; game(0, 1) = 0; lay(0, 0, true) = false; hand(0, 0) = 48; hand(0, 1) = 14;
            lay(0, 4, true) = throws UnsupportedOperationException; lay(0, 1, true) = false; hand(0, 0) = 48;
            hand(0, 1) = 12;
            """);
    }

    private void noSuchTile() {
        Cases.Case each = cases.promise(4, "Throws IllegalArgumentException if the set has no such tile");
        String rows = """
            lay(0, -1, true) = throws IllegalArgumentException; lay(0, 6, true) = throws IllegalArgumentException;
            lay(0, 32, true) = throws IllegalArgumentException; lay(0, 27, false) = throws IllegalArgumentException;
            lay(0, -2147483648, true) = throws IllegalArgumentException;
            lay(0, 2147483647, true) = throws IllegalArgumentException;
            """;
        each.changesNothing("one beyond on either side, and far beyond", Plays.DRAWN_GAME, rows);
        each.changesNothing("of the greatest set", "house(6, 2, 7, true, 'l') = 0; game(0, 0) = 0;", """
            lay(0, 28, true) = throws IllegalArgumentException; lay(0, -1, true) = throws IllegalArgumentException;
            """);
        each.changesNothing("listed first, when the game was won", WON, rows);
        each.changesNothing("listed first, when the game was blocked", BLOCKED, rows);
        each.changesNothing("listed first, when there are 400 entries", FULL_TO_LAY, """
            lay(5, -1, true) = throws IllegalArgumentException; lay(5, 6, true) = throws IllegalArgumentException;
            lay(0, 28, true) = throws IllegalArgumentException;
            """);
        cases.promise(4, "Throws IndexOutOfBoundsException if there is no such game")
            .changesNothing("listed first, when no set has the tile", Plays.DRAWN_GAME, """
                lay(1, -1, true) = throws IndexOutOfBoundsException;
                lay(1, 28, true) = throws IndexOutOfBoundsException;
                lay(-1, -1, true) = throws IndexOutOfBoundsException;
                """)
            .changesNothing("listed first, when there are 400 entries", FULL_TO_LAY, """
                lay(6, 2, true) = throws IndexOutOfBoundsException; lay(-1, 2, true) = throws IndexOutOfBoundsException;
                """);
    }

    private void layWhenOver() {
        Cases.Case each = cases.promise(4, "Throws IllegalStateException " + OVER);
        each.changesNothing("it was won; a tile in the hand, and tiles that are not", WON, """
            lay(0, 4, true) = throws IllegalStateException; lay(0, 4, false) = throws IllegalStateException;
            lay(0, 0, true) = throws IllegalStateException; lay(0, 2, true) = throws IllegalStateException;
            """);
        each.changesNothing("it was blocked; tiles in the hands, and one that is not", BLOCKED, """
            lay(0, 0, true) = throws IllegalStateException; lay(0, 2, true) = throws IllegalStateException;
            lay(0, 5, true) = throws IllegalStateException; lay(0, 1, false) = throws IllegalStateException;
            """);
        each.holds("of a game that is over why tells nothing", WON + """
            lay(0, 0, true) = throws IllegalStateException; why(0) = throws NoSuchElementException;
            """);
        each.holds("399 entries, then 400", FullJournal.of(398) + """
            game(3, 10) = 5; entries() = 399; lay(5, 0, true) = false; entries() = 400; entry(399) = t;
            """);
        each.changesNothing("400 entries; it fits, it does not, it is not in the hand", FULL_TO_LAY, """
            lay(5, 2, true) = throws IllegalStateException; lay(5, 2, false) = throws IllegalStateException;
            lay(5, 5, true) = throws IllegalStateException; lay(5, 0, true) = throws IllegalStateException;
            """);
        each.holds("of 400 entries why tells nothing", FULL_TO_LAY + """
            lay(5, 5, true) = throws IllegalStateException; lay(5, 0, true) = throws IllegalStateException;
            why(0) = throws NoSuchElementException;
            """);
    }

    private void notInHand() {
        Cases.Case each = cases.promise(4, "Throws UnsupportedOperationException if it is not in the hand");
        each.changesNothing("of the next player, and of the stock", Plays.DRAWN_GAME, """
            lay(0, 2, true) = throws UnsupportedOperationException; lay(0, 5, false) = throws
            UnsupportedOperationException; lay(0, 4, true) = throws UnsupportedOperationException;
            lay(0, 1, false) = throws UnsupportedOperationException;
            """);
        each.changesNothing("it lies already", Plays.DRAWN_GAME + "lay(0, 0, true) = false;", """
            lay(0, 0, true) = throws UnsupportedOperationException; lay(0, 0, false) = throws
            UnsupportedOperationException;
            """);
        each.holds("neither in the hand nor fitting", Plays.DRAWN_GAME + """
            lay(0, 0, true) = false; lay(0, 3, true) = throws UnsupportedOperationException; why(0) = h;
            why(1) = throws NoSuchElementException; lay(0, 2, true) = false;
            """);
    }

    private void notFitting() {
        Cases.Case each = cases.promise(4, "or does not fit");
        each.changesNothing("at neither end", Plays.DRAWN_GAME + "lay(0, 0, true) = false;", """
            lay(0, 5, true) = throws UnsupportedOperationException; lay(0, 5, false) = throws
            UnsupportedOperationException;
            """);
        String rightAlone = "house(2, 2, 2, true, 'l') = 0; game(0, 2) = 0; lay(0, 1, true) = false;";
        each.changesNothing("at the left end, but at the right one", rightAlone, """
            lay(0, 4, true) = throws UnsupportedOperationException; lay(0, 3, true) = throws
            UnsupportedOperationException;
            """);
        each.holds("at the right one then", rightAlone + """
            lay(0, 4, true) = throws UnsupportedOperationException; why(0) = f; why(1) = 0; lay(0, 4, false) = false;
            """);
        String leftAlone = "house(2, 2, 2, true, 'l') = 0; game(0, 4) = 0; lay(0, 2, true) = false;";
        each.changesNothing("at the right end, but at the left one", leftAlone, """
            lay(0, 0, false) = throws UnsupportedOperationException;
            """);
        each.holds("at the left one then", leftAlone + """
            lay(0, 0, false) = throws UnsupportedOperationException; why(0) = f; why(1) = 2; lay(0, 0, true) = false;
            """);
    }

    private void drawn() {
        cases.promise(5, "Draws a tile, for the player whose turn it is.").holds("the next one, and the last one",
            Plays.DRAWN_GAME + """
            lay(0, 0, true) = false; lay(0, 2, true) = false; draw(0) = 4; hand(0, 0) = 24; hand(0, 1) = 32;
            stock(0) = 1; lay(0, 4, true) = false; draw(0) = 1; stock(0) = 0; hand(0, 1) = 34; hand(0, 0) = 8;
            """);
        cases.promise(5, "Throws IndexOutOfBoundsException if there is no such game")
            .changesNothing("listed first, when there are 400 entries", FULL_TO_DRAW, """
                draw(6) = throws IndexOutOfBoundsException; draw(-1) = throws IndexOutOfBoundsException;
                """);
    }

    private void drawWhenOver() {
        Cases.Case each = cases.promise(5, "Throws IllegalStateException " + OVER);
        each.changesNothing("it was won; the stock has tiles", WON, "draw(0) = throws IllegalStateException;");
        each.changesNothing("it was won; a tile of the next player fits", """
            house(2, 2, 1, true, 'l') = 0; game(0, 999999) = 0; hand(0, 1) = 1; lay(0, 2, true) = true;
            """, "draw(0) = throws IllegalStateException;");
        each.changesNothing("it was blocked; there are no draws", BLOCKED, "draw(0) = throws IllegalStateException;");
        each.changesNothing("it was blocked; the stock has none", Plays.DRAWN_GAME + Plays.DRAWN_PLAY, """
            draw(0) = throws IllegalStateException;
            """);
        each.holds("399 entries, then 400", FullJournal.of(396) + """
            game(3, 10) = 5; lay(5, 0, true) = false; lay(5, 2, true) = false; entries() = 399; draw(5) = 4;
            entries() = 400; entry(399) = d;
            """);
        each.changesNothing("400 entries; one could be drawn", FULL_TO_DRAW, "draw(5) = throws IllegalStateException;");
        each.changesNothing("400 entries; a tile fits", FULL_TO_LAY, "draw(5) = throws IllegalStateException;");
        each.changesNothing("400 entries; there are no draws", FULL_TO_PASS, "draw(5) = throws IllegalStateException;");
    }

    private void drawRefused() {
        Cases.Case each = cases.promise(5, "Throws UnsupportedOperationException if a tile in the hand fits, there are"
            + " no draws, or the stock has none");
        String row = "draw(0) = throws UnsupportedOperationException;";
        each.changesNothing("no tile lies", Plays.DRAWN_GAME, row);
        each.changesNothing("a tile fits at both ends", Plays.DRAWN_GAME + "lay(0, 0, true) = false;", row);
        each.changesNothing("a tile fits at the left end alone", """
            house(2, 2, 2, true, 'l') = 0; game(0, 4) = 0; lay(0, 2, true) = false;
            """, row);
        each.changesNothing("a tile fits at the right end alone", """
            house(2, 2, 2, true, 'l') = 0; game(0, 2) = 0; lay(0, 1, true) = false;
            """, row);
        each.changesNothing("the tile that was drawn fits", Plays.DRAWN_GAME + """
            lay(0, 0, true) = false; lay(0, 2, true) = false; draw(0) = 4;
            """, row);
        each.changesNothing("there are no draws", Plays.QUICK_HOUSE + Plays.quickGame(0) + "lay(0, 3, true) = false;",
            row);
        each.changesNothing("the stock has none", """
            house(2, 2, 3, true, 'l') = 0; game(0, 11) = 0; lay(0, 0, true) = false;
            """, row);
        each.changesNothing("the stock has none any more", Plays.DRAWN_GAME + Plays.DRAWN_BUT_LAST, row);
    }

    private void passed() {
        cases.promise(6, "Returns whether the game is over by it.")
            .holds("the last one but one, and the last one", Plays.QUICK_HOUSE + Plays.quickGame(0) + """
                lay(0, 3, true) = false; pass(0) = false; isOver(0) = false; mover(0) = 0; pass(0) = true;
                isOver(0) = true;
                """)
            .holds("of four players", """
                house(4, 4, 2, false, 'l') = 0; game(0, 171) = 0; lay(0, 14, true) = false; pass(0) = false;
                pass(0) = false; pass(0) = false; isOver(0) = false; pass(0) = true; winner(0) = 3;
                """);
        cases.promise(6, "Throws IndexOutOfBoundsException if there is no such game")
            .changesNothing("listed first, when there are 400 entries", FULL_TO_PASS, """
                pass(6) = throws IndexOutOfBoundsException; pass(-1) = throws IndexOutOfBoundsException;
                """);
    }

    private void passWhenOver() {
        Cases.Case each = cases.promise(6, "Throws IllegalStateException " + OVER);
        each.changesNothing("it was won; one could be drawn", WON, "pass(0) = throws IllegalStateException;");
        each.changesNothing("it was won; a tile of the next player fits", """
            house(2, 2, 1, false, 'l') = 0; game(0, 999999) = 0; hand(0, 1) = 1; lay(0, 2, true) = true;
            """, "pass(0) = throws IllegalStateException;");
        each.changesNothing("it was blocked", BLOCKED, "pass(0) = throws IllegalStateException;");
        each.holds("399 entries, then 400", FullJournal.of(397) + """
            game(2, 22) = 5; lay(5, 3, true) = false; entries() = 399; pass(5) = false; entries() = 400; entry(399) = p;
            """);
        each.holds("the 400th entry ends a game, and it is paid", FullJournal.of(395) + """
            game(2, 22) = 5; bet(0, 5, 1, 7) = 7; lay(5, 3, true) = false; pass(5) = false; entries() = 399;
            pass(5) = true; entries() = 400; winner(5) = 1; paid(5, 0) = 7;
            """);
        each.changesNothing("400 entries; the mover could pass", FULL_TO_PASS,
            "pass(5) = throws IllegalStateException;");
        each.changesNothing("400 entries; a tile fits", FULL_TO_LAY, "pass(5) = throws IllegalStateException;");
        each.changesNothing("400 entries; one can be drawn", FULL_TO_DRAW, "pass(5) = throws IllegalStateException;");
    }

    private void passRefused() {
        Cases.Case each = cases.promise(6, "Throws UnsupportedOperationException if a tile in the hand fits, or one can"
            + " be drawn");
        String row = "pass(0) = throws UnsupportedOperationException;";
        each.changesNothing("no tile lies", Plays.QUICK_HOUSE + Plays.quickGame(0), row);
        each.changesNothing("a tile fits at the left end alone", """
            house(2, 2, 2, false, 'l') = 0; game(0, 4) = 0; lay(0, 2, true) = false;
            """, row);
        each.changesNothing("a tile fits at the right end alone", """
            house(2, 2, 2, false, 'l') = 0; game(0, 2) = 0; lay(0, 1, true) = false;
            """, row);
        each.changesNothing("one can be drawn", """
            house(2, 2, 2, true, 'l') = 0; game(0, 2) = 0; lay(0, 0, true) = false;
            """, row);
        each.changesNothing("the last one can be drawn", """
            house(2, 2, 2, true, 'l') = 0; game(0, 2) = 0; lay(0, 0, true) = false; draw(0) = 5; stock(0) = 1;
            """, row);
        each.changesNothing("the last one was drawn, and fits", """
            house(2, 2, 2, true, 'l') = 0; game(0, 2) = 0; lay(0, 0, true) = false; draw(0) = 5; draw(0) = 2;
            """, row);
    }
}
