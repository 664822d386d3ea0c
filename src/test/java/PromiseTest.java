/** Promise by promise: ordinary calls, the edges that the document names, and wrong ones. */
final class PromiseTest {
    /** Two players, three tiles each, no draws, ruled 'l'; blocked with 4 and 2 pips left, the player 1 laid last. */
    private static final String BLOCK = """
        house(2, 2, 3, false, 'l') = 0; game(0, 1) = 0; lay(0, 0, true) = false; lay(0, 1, true) = false;
        lay(0, 4, true) = false; lay(0, 2, true) = false; pass(0) = false; pass(0) = true;
        """;

    private final Checks checks;

    private PromiseTest(Checks checks) {
        this.checks = checks;
    }

    static void run(Checks checks) {
        PromiseTest test = new PromiseTest(checks);
        test.example();
        test.newObject();
        test.houses();
        test.gamesBegun();
        test.laying();
        test.drawing();
        test.passing();
        test.moversHandsStock();
        test.lineAndEnds();
        test.overBlockedWinner();
        test.ties();
        test.why();
        test.betting();
        test.payments();
        test.appeals();
        test.appealsAndCheckpoints();
        test.owing();
        test.journal();
        test.crashes();
        test.checkpoints();
        test.checkpointsWaitForBets();
        test.replays();
        test.figures();
    }

    private void example() {
        String example = String.join(" ", Document.block("<p>Examples:"));
        checks.due("the calls of the document's example", 41, Rows.of(example).size());
        checks.script("the document's example, as it stands there", example);
        checks.script("the document's example", """
            house(2, 2, 3, false, 'l') = 0; game(0, 5) = 0; hand(0, 0) = 56; stock(0) = 0; mover(0) = 0;
            bet(0, 0, 0, 30) = 30; bet(1, 0, 1, 20) = 50; pool(0) = 50;
            lay(0, 0, true) = throws UnsupportedOperationException;
            lay(0, 1, true) = throws UnsupportedOperationException;
            lay(0, 2, true) = throws UnsupportedOperationException; lay(0, 3, false) = false;
            lay(0, 4, true) = throws UnsupportedOperationException;
            lay(0, 5, false) = throws UnsupportedOperationException; pass(0) = throws UnsupportedOperationException;
            draw(0) = throws UnsupportedOperationException; why(0) = h; line(0) = 5; sign(0, 1, false) = 1;
            end(0, true) = 1; isOver(0) = false; isBlocked(0) = false; winner(0) = throws NoSuchElementException;
            checkpoint() = throws UnsupportedOperationException; loose() = 4; flush() = 4; entries() = 4; entry(0) = g;
            gameOf(1) = 0; behind(0) = throws IndexOutOfBoundsException;
            appeal(0, 's') = throws UnsupportedOperationException; ruling(0) = l; paid(0, 0) = 0; purse(0) = 70;
            club() = 0; crash() = 0; checksum() = 187257074035881; replay(-1) = 187257074035881; playedShare() = 0.0;
            meanPurse() = 87.5; isSound() = true.
            """);
    }

    private void newObject() {
        checks.script("promise 1", """
            entries() = 0; loose() = 0; club() = 0; purse(0) = 100; purse(3) = 100; checksum() = 295834457;
            replay(-1) = 295834457; playedShare() = throws NoSuchElementException; meanPurse() = 100.0;
            isSound() = true; game(0, 0) = throws IndexOutOfBoundsException;
            mover(0) = throws IndexOutOfBoundsException;
            why(0) = throws NoSuchElementException; entry(0) = throws NoSuchElementException;
            gameOf(0) = throws NoSuchElementException; behind(0) = throws IndexOutOfBoundsException;
            replay(0) = throws IndexOutOfBoundsException; flush() = 0; crash() = 0; checkpoint() = 0; behind(0) = 0;
            """);
        Caller used = new Caller();
        checks.script("promise 1, one of two", used, BLOCK);
        checks.script("promise 1, the other", "entries() = 0; house(2, 2, 1, true, 'n') = 0; checksum() = 295834457;");
    }

    private void houses() {
        checks.script("promise 2, the edges", """
            house(1, 2, 1, true, 'l') = throws IllegalArgumentException;
            house(7, 2, 1, true, 'l') = throws IllegalArgumentException;
            house(-2147483648, 2, 1, true, 'l') = throws IllegalArgumentException;
            house(2147483647, 2, 1, true, 'l') = throws IllegalArgumentException;
            house(6, 1, 1, true, 'l') = throws IllegalArgumentException;
            house(6, 5, 1, true, 'l') = throws IllegalArgumentException;
            house(6, 2147483647, 2, true, 'l') = throws IllegalArgumentException;
            house(6, 2, 0, true, 'l') = throws IllegalArgumentException;
            house(6, 2, 8, true, 'l') = throws IllegalArgumentException;
            house(6, 2, -2147483648, true, 'l') = throws IllegalArgumentException;
            house(6, 2, 1, true, 'L') = throws IllegalArgumentException;
            house(6, 2, 1, true, 'm') = throws IllegalArgumentException;
            house(6, 2, 1, true, 'x') = throws IllegalArgumentException;
            house(2, 2, 4, true, 'l') = throws IllegalArgumentException;
            house(2, 3, 3, true, 'l') = throws IllegalArgumentException;
            house(2, 4, 2, true, 'l') = throws IllegalArgumentException;
            house(3, 3, 4, true, 'l') = throws IllegalArgumentException;
            house(4, 4, 4, true, 'l') = throws IllegalArgumentException;
            house(5, 4, 6, true, 'l') = throws IllegalArgumentException;
            house(2, 2, 3, true, 'l') = 0; house(6, 4, 7, false, 's') = 1; house(5, 3, 7, true, 'n') = 2;
            house(3, 2, 5, false, 'n') = 3; house(2, 2, 1, true, 'l') = throws IllegalStateException;
            house(1, 2, 1, true, 'l') = throws IllegalArgumentException;
            house(2, 2, 1, true, 'q') = throws IllegalArgumentException;
            house(2, 2, 4, true, 'l') = throws IllegalArgumentException;
            entries() = 0; loose() = 0; crash() = 0; game(3, 0) = 0; game(1, 0) = 1; stock(0) = 0; stock(1) = 0;
            """);
        checks.script("promise 2, a house outlives a crash", """
            house(2, 2, 1, true, 's') = 0; crash() = 0; game(0, 1) = 0; crash() = 1; game(0, 1) = 0; ruling(0) = s;
            house(2, 2, 1, true, 'n') = 1;
            """);
    }

    private void gamesBegun() {
        checks.script("promise 3, how tiles are dealt", """
            house(6, 4, 7, false, 'l') = 0; house(6, 2, 7, true, 'l') = 1; house(5, 3, 7, true, 'n') = 2;
            house(4, 2, 7, true, 's') = 3;
            game(0, 999999) = 0; hand(0, 0) = 61350912; hand(0, 1) = 135292; hand(0, 2) = 1344385;
            hand(0, 3) = 205604866; game(0, 0) = 1; hand(1, 0) = 11584576; hand(1, 1) = 185147904;
            hand(1, 2) = 67115302; hand(1, 3) = 4587673; game(2, 123456) = 2; hand(2, 0) = 39748; hand(2, 1) = 401466;
            hand(2, 2) = 1655937; game(3, 1) = 3; hand(3, 0) = 25639; hand(3, 1) = 6872; stock(3) = 1;
            game(1, 999999) = 4; hand(4, 0) = 61350912; hand(4, 1) = 135292; stock(4) = 14; mover(4) = 0; line(4) = 0;
            isOver(4) = false; ruling(2) = n; ruling(3) = s; entries() = 5; entry(4) = g; gameOf(4) = 4;
            """);
        checks.script("promise 3, wrong ones", """
            house(2, 2, 1, true, 'l') = 0; game(-1, 0) = throws IndexOutOfBoundsException;
            game(1, 0) = throws IndexOutOfBoundsException; game(1, -1) = throws IndexOutOfBoundsException;
            game(2147483647, 1000000) = throws IndexOutOfBoundsException;
            game(0, -1) = throws IllegalArgumentException; game(0, 1000000) = throws IllegalArgumentException;
            game(0, -2147483648) = throws IllegalArgumentException; entries() = 0;
            game(0, 0) = 0; game(0, 999999) = 1; game(0, 2) = 2; game(0, 3) = 3; game(0, 4) = 4; game(0, 5) = 5;
            game(0, 6) = throws IllegalStateException; game(0, -1) = throws IllegalArgumentException;
            game(1, 6) = throws IndexOutOfBoundsException; entries() = 6; crash() = 6; game(0, 6) = 0;
            """);
    }

    private void laying() {
        checks.script("promise 4, both ends", """
            house(2, 2, 3, false, 'l') = 0; game(0, 1) = 0; hand(0, 0) = 49; hand(0, 1) = 14;
            lay(0, 4, true) = false; hand(0, 0) = 33; mover(0) = 1; end(0, true) = 1; end(0, false) = 2;
            lay(0, 1, false) = throws UnsupportedOperationException; mover(0) = 1; hand(0, 1) = 14; entries() = 2;
            lay(0, 2, false) = false; end(0, true) = 1; end(0, false) = 0; lay(0, 0, false) = false;
            lay(0, 3, true) = false; end(0, true) = 1; pass(0) = false; lay(0, 1, true) = true; winner(0) = 1;
            sign(0, 1, false) = 0; sign(0, 3, false) = 1; sign(0, 6, false) = 1; sign(0, 8, false) = 1;
            hand(0, 1) = 0; entries() = 7;
            """);
        checks.script("promise 4, the first tile lies with its lower number to the left", """
            house(2, 2, 1, false, 'l') = 0; game(0, 0) = 0; hand(0, 0) = 4; lay(0, 2, false) = true;
            sign(0, 1, false) = 0; sign(0, 3, false) = 2; game(0, 0) = 1; lay(1, 2, true) = true;
            sign(1, 1, false) = 0; sign(1, 3, false) = 2; isOver(1) = true; isBlocked(1) = false; winner(1) = 0;
            """);
        checks.script("promise 4, wrong ones", """
            house(2, 2, 1, false, 'l') = 0; lay(0, 0, true) = throws IndexOutOfBoundsException; game(0, 0) = 0;
            lay(-1, -1, true) = throws IndexOutOfBoundsException; lay(1, 0, true) = throws IndexOutOfBoundsException;
            lay(0, -1, true) = throws IllegalArgumentException; lay(0, 6, true) = throws IllegalArgumentException;
            lay(0, 2147483647, true) = throws IllegalArgumentException;
            lay(0, -2147483648, true) = throws IllegalArgumentException;
            lay(0, 4, true) = throws UnsupportedOperationException;
            lay(0, 5, true) = throws UnsupportedOperationException;
            lay(0, 2, true) = true; lay(0, 4, true) = throws IllegalStateException;
            lay(0, 2, true) = throws IllegalStateException; lay(0, 6, true) = throws IllegalArgumentException;
            lay(0, -1, true) = throws IllegalArgumentException; entries() = 2;
            """);
    }

    private void drawing() {
        checks.script("promise 5", Plays.DRAWN_GAME + """
            hand(0, 0) = 9; hand(0, 1) = 36; stock(0) = 2; draw(0) = throws UnsupportedOperationException;
            lay(0, 0, true) = false; draw(0) = throws UnsupportedOperationException; lay(0, 2, true) = false;
            draw(0) = 4; hand(0, 0) = 24; stock(0) = 1; mover(0) = 0; draw(0) = throws UnsupportedOperationException;
            lay(0, 4, true) = false; draw(0) = 1; stock(0) = 0; hand(0, 1) = 34; mover(0) = 1;
            lay(0, 1, true) = false; draw(0) = throws UnsupportedOperationException; pass(0) = false;
            draw(0) = throws UnsupportedOperationException; pass(0) = true; draw(0) = throws IllegalStateException;
            draw(1) = throws IndexOutOfBoundsException; draw(-1) = throws IndexOutOfBoundsException;
            entry(3) = d; entry(5) = d; entries() = 9;
            """);
        checks.script("promise 5, no draws in the house", """
            house(2, 2, 2, false, 'l') = 0; game(0, 10) = 0; lay(0, 0, true) = false; lay(0, 2, true) = false;
            stock(0) = 2; draw(0) = throws UnsupportedOperationException; pass(0) = false; stock(0) = 2;
            """);
        checks.script("promise 5, several drawn in one turn", """
            house(2, 2, 2, true, 'l') = 0; game(0, 2) = 0; hand(0, 0) = 3; hand(0, 1) = 24; stock(0) = 2;
            lay(0, 0, true) = false; pass(0) = throws UnsupportedOperationException; draw(0) = 5;
            pass(0) = throws UnsupportedOperationException; draw(0) = 2; hand(0, 1) = 60; mover(0) = 1;
            pass(0) = throws UnsupportedOperationException; draw(0) = throws UnsupportedOperationException;
            lay(0, 2, false) = false; mover(0) = 0;
            """);
    }

    private void passing() {
        checks.script("promise 6", """
            house(2, 2, 3, false, 'l') = 0; game(0, 11) = 0; pass(0) = throws UnsupportedOperationException;
            hand(0, 0) = 7; lay(0, 0, true) = false; pass(0) = false; mover(0) = 0; isOver(0) = false;
            pass(0) = throws UnsupportedOperationException; lay(0, 1, true) = false;
            pass(0) = throws UnsupportedOperationException; lay(0, 3, true) = false; lay(0, 2, false) = true;
            pass(0) = throws IllegalStateException; pass(1) = throws IndexOutOfBoundsException;
            pass(-2147483648) = throws IndexOutOfBoundsException; entry(2) = p; entries() = 6;
            """);
        checks.script("promise 6, only passes one behind the other block", """
            house(3, 3, 3, false, 'l') = 0; game(0, 3) = 0; lay(0, 2, true) = false; lay(0, 0, true) = false;
            lay(0, 3, true) = false; lay(0, 8, true) = false; pass(0) = false; lay(0, 5, true) = false;
            pass(0) = false; lay(0, 1, true) = false; pass(0) = false; pass(0) = false; isOver(0) = false;
            isBlocked(0) = false; pass(0) = true; isOver(0) = true; isBlocked(0) = true; winner(0) = 1;
            """);
        checks.script("promise 6, a block", BLOCK + "pass(0) = throws IllegalStateException; entries() = 7;");
    }

    private void moversHandsStock() {
        checks.script("promises 7 to 9", """
            house(6, 4, 7, false, 'l') = 0; house(2, 3, 1, true, 'l') = 1; mover(0) = throws IndexOutOfBoundsException;
            hand(0, 0) = throws IndexOutOfBoundsException; stock(0) = throws IndexOutOfBoundsException;
            game(0, 0) = 0; game(1, 0) = 1; mover(0) = 0; lay(0, 6, true) = false; mover(0) = 1;
            hand(0, 0) = 11584512; lay(0, 24, true) = throws UnsupportedOperationException;
            lay(0, 24, false) = false; mover(0) = 2; hand(0, 1) = 168370688; lay(0, 1, true) = false; mover(0) = 3;
            lay(0, 18, true) = throws UnsupportedOperationException;
            lay(0, 3, true) = throws UnsupportedOperationException;
            mover(1) = 0; hand(1, 2) = 2; hand(1, 3) = throws IndexOutOfBoundsException;
            hand(1, -1) = throws IndexOutOfBoundsException; hand(0, 4) = throws IndexOutOfBoundsException;
            hand(2, 0) = throws IndexOutOfBoundsException; hand(-1, 0) = throws IndexOutOfBoundsException;
            hand(0, 2147483647) = throws IndexOutOfBoundsException; stock(0) = 0; stock(1) = 3;
            stock(2) = throws IndexOutOfBoundsException; stock(-1) = throws IndexOutOfBoundsException;
            mover(2) = throws IndexOutOfBoundsException; mover(-1) = throws IndexOutOfBoundsException;
            lay(1, 2, true) = true; mover(1) = throws IllegalStateException; hand(1, 0) = 0; hand(1, 1) = 16;
            stock(1) = 3;
            """);
    }

    private void lineAndEnds() {
        checks.script("promises 10 to 12", """
            house(2, 2, 3, false, 'l') = 0; end(0, true) = throws IndexOutOfBoundsException;
            line(0) = throws IndexOutOfBoundsException; sign(0, 0, false) = throws IndexOutOfBoundsException;
            game(0, 1) = 0; end(0, true) = throws NoSuchElementException; end(0, false) = throws NoSuchElementException;
            end(1, true) = throws IndexOutOfBoundsException; line(0) = 0; line(1) = throws IndexOutOfBoundsException;
            line(-1) = throws IndexOutOfBoundsException; sign(0, 0, false) = throws NoSuchElementException;
            sign(0, 0, true) = throws NoSuchElementException; sign(1, -1, true) = throws IndexOutOfBoundsException;
            lay(0, 0, true) = false; lay(0, 1, true) = false; lay(0, 4, true) = false; line(0) = 15;
            end(0, true) = 2; end(0, false) = 0; sign(0, 0, false) = [; sign(0, 1, false) = 2; sign(0, 2, false) = |;
            sign(0, 3, false) = 1; sign(0, 4, false) = ]; sign(0, 5, false) = [; sign(0, 6, false) = 1;
            sign(0, 7, false) = |; sign(0, 8, false) = 0; sign(0, 9, false) = ]; sign(0, 10, false) = [;
            sign(0, 11, false) = 0; sign(0, 12, false) = |; sign(0, 13, false) = 0; sign(0, 14, false) = ];
            sign(0, 15, false) = throws NoSuchElementException; sign(0, -1, false) = throws NoSuchElementException;
            sign(0, 0, true) = [; sign(0, 1, true) = 0; sign(0, 2, true) = |; sign(0, 3, true) = 0;
            sign(0, 4, true) = ]; sign(0, 5, true) = [; sign(0, 6, true) = 0; sign(0, 7, true) = |;
            sign(0, 8, true) = 1; sign(0, 9, true) = ]; sign(0, 10, true) = [; sign(0, 11, true) = 1;
            sign(0, 12, true) = |; sign(0, 13, true) = 2; sign(0, 14, true) = ];
            sign(0, 15, true) = throws NoSuchElementException;
            sign(0, 2147483647, true) = throws NoSuchElementException;
            sign(0, -2147483648, true) = throws NoSuchElementException;
            """);
    }

    private void overBlockedWinner() {
        checks.script("promises 13 to 15, blocked", """
            isOver(0) = throws IndexOutOfBoundsException; isBlocked(0) = throws IndexOutOfBoundsException;
            winner(0) = throws IndexOutOfBoundsException;
            """ + BLOCK + """
            isOver(0) = true; isBlocked(0) = true; winner(0) = 1; isOver(1) = throws IndexOutOfBoundsException;
            isBlocked(-1) = throws IndexOutOfBoundsException; winner(1) = throws IndexOutOfBoundsException;
            game(0, 5) = 1; isOver(1) = false; isBlocked(1) = false; winner(1) = throws NoSuchElementException;
            """);
        checks.script("promises 13 to 15, won", """
            house(2, 2, 2, false, 's') = 0; game(0, 6) = 0; lay(0, 1, true) = false; lay(0, 4, false) = false;
            pass(0) = false; lay(0, 5, false) = true; isOver(0) = true; isBlocked(0) = false; winner(0) = 1;
            """);
        checks.script("promise 15, ruled 's'", """
            house(2, 2, 2, true, 's') = 0; game(0, 10) = 0;
            """ + Plays.DRAWN_PLAY + "winner(0) = 1; ruling(0) = s;");
        checks.script("promise 15, ruled 'l'", Plays.DRAWN_GAME + Plays.DRAWN_PLAY + "winner(0) = 0; ruling(0) = l;");
        checks.script("promise 15, ruled 'n'", """
            house(2, 2, 2, true, 'n') = 0; game(0, 10) = 0;
            """ + Plays.DRAWN_PLAY + "winner(0) = -1; ruling(0) = n; isBlocked(0) = true;");
    }

    private void ties() {
        checks.script("promise 15, several with the fewest pips", """
            house(3, 2, 3, false, 'l') = 0; game(0, 170) = 0; hand(0, 0) = 641; hand(0, 1) = 304;
            lay(0, 0, true) = false; pass(0) = false; pass(0) = true; winner(0) = -1; isBlocked(0) = true;
            appeal(0, 's') = 0; appeal(0, 'l') = -1; ruling(0) = l;
            """);
        checks.script("promise 15, several with more than the fewest", """
            house(3, 3, 2, false, 'l') = 0; game(0, 39) = 0; lay(0, 0, true) = false; pass(0) = false;
            pass(0) = false; isOver(0) = false; pass(0) = true; winner(0) = 0;
            """);
        checks.script("promise 15, the last player has the fewest, behind others", """
            house(4, 3, 3, true, 'l') = 0; game(0, 54) = 0; lay(0, 1, true) = false; lay(0, 0, true) = false;
            lay(0, 2, true) = false; lay(0, 5, false) = false; lay(0, 6, true) = false; lay(0, 8, true) = false;
            draw(0) = 10; draw(0) = 13; lay(0, 13, true) = false; draw(0) = 11; draw(0) = 14; draw(0) = 12;
            lay(0, 12, true) = false; draw(0) = 7; lay(0, 7, true) = false; pass(0) = false; pass(0) = false;
            pass(0) = true; winner(0) = 2; stock(0) = 0;
            """);
        checks.script("promise 15, two with the fewest, a third with more", """
            house(4, 3, 3, true, 'l') = 0; game(0, 8) = 0; lay(0, 6, true) = false; lay(0, 2, false) = false;
            lay(0, 0, false) = false; lay(0, 7, true) = false; draw(0) = 10; lay(0, 10, true) = false; draw(0) = 3;
            lay(0, 3, false) = false; draw(0) = 1; draw(0) = 9; lay(0, 9, true) = false; lay(0, 11, true) = false;
            lay(0, 13, true) = false; draw(0) = 12; lay(0, 12, true) = false; draw(0) = 4; pass(0) = false;
            pass(0) = false; pass(0) = true; winner(0) = -1; appeal(0, 's') = 0;
            """);
    }

    private void why() {
        checks.script("promise 16", Plays.DRAWN_GAME + """
            why(0) = throws NoSuchElementException; why(-1) = throws NoSuchElementException;
            lay(0, 6, true) = throws IllegalArgumentException; lay(1, 0, true) = throws IndexOutOfBoundsException;
            pass(0) = throws UnsupportedOperationException; draw(0) = throws UnsupportedOperationException;
            why(0) = throws NoSuchElementException; lay(0, 2, true) = throws UnsupportedOperationException; why(0) = h;
            why(1) = throws NoSuchElementException; lay(0, 0, false) = false; why(0) = h; flush() = 2;
            lay(0, 5, true) = throws UnsupportedOperationException; why(0) = f; why(1) = 0;
            why(2) = throws NoSuchElementException; why(-1) = throws NoSuchElementException;
            why(2147483647) = throws NoSuchElementException; why(-2147483648) = throws NoSuchElementException;
            lay(0, 2, true) = false; why(0) = f; why(1) = 0; lay(0, 3, true) = throws UnsupportedOperationException;
            why(0) = f; why(1) = 2; lay(0, 3, false) = throws UnsupportedOperationException; why(1) = 0;
            lay(0, 3, true) = throws UnsupportedOperationException; lay(0, 7, true) = throws IllegalArgumentException;
            why(1) = 2; crash() = 1; why(0) = f; why(1) = 2; replay(-1) = 186182335379640; why(1) = 2;
            game(0, 0) = 1; lay(1, 0, true) = throws UnsupportedOperationException; why(0) = h;
            why(1) = throws NoSuchElementException; lay(0, 3, true) = throws UnsupportedOperationException; why(0) = h;
            """);
    }

    private void betting() {
        checks.script("promises 17 to 19", """
            bet(0, 0, 0, 1) = throws IndexOutOfBoundsException; house(2, 3, 1, true, 'n') = 0; game(0, 0) = 0;
            pool(0) = 0; pool(1) = throws IndexOutOfBoundsException; pool(-1) = throws IndexOutOfBoundsException;
            bet(-1, 0, 0, 1) = throws IndexOutOfBoundsException; bet(4, 0, 0, 1) = throws IndexOutOfBoundsException;
            bet(0, 1, 0, 1) = throws IndexOutOfBoundsException; bet(0, -1, 0, 1) = throws IndexOutOfBoundsException;
            bet(0, 0, 3, 1) = throws IndexOutOfBoundsException; bet(0, 0, -1, 0) = throws IndexOutOfBoundsException;
            bet(0, 0, 0, 0) = throws IllegalArgumentException; bet(0, 0, 0, -5) = throws IllegalArgumentException;
            bet(0, 0, 0, 101) = throws IllegalArgumentException;
            bet(0, 0, 0, 2147483647) = throws IllegalArgumentException; entries() = 1;
            bet(0, 0, 2, 100) = 100; purse(0) = 0; bet(0, 0, 2, 1) = throws IllegalArgumentException;
            bet(3, 0, 0, 1) = 101; purse(3) = 99; purse(1) = 100; pool(0) = 101;
            purse(4) = throws IndexOutOfBoundsException;
            purse(-1) = throws IndexOutOfBoundsException; purse(2147483647) = throws IndexOutOfBoundsException;
            bet(3, 0, 0, 1) = 102; bet(3, 0, 0, 1) = 103; bet(3, 0, 0, 1) = 104; bet(3, 0, 0, 1) = 105;
            bet(3, 0, 0, 1) = 106; bet(3, 0, 0, 1) = 107; bet(3, 0, 0, 1) = 108; bet(3, 0, 0, 1) = 109;
            bet(3, 0, 0, 1) = throws IllegalStateException; bet(3, 0, 0, 100) = throws IllegalArgumentException;
            bet(3, 0, 3, 1) = throws IndexOutOfBoundsException; pool(0) = 109; purse(3) = 91; entries() = 11;
            entry(1) = b; gameOf(1) = 0; paid(0, 9) = 0; paid(0, 10) = throws IndexOutOfBoundsException;
            game(0, 0) = 1; bet(3, 1, 1, 91) = 91; lay(1, 2, true) = true; pool(1) = 91; club() = 91;
            bet(1, 1, 0, 1) = throws IllegalStateException; bet(1, 1, 0, 101) = throws IllegalArgumentException;
            """);
    }

    private void payments() {
        checks.script("promises 18 to 21, cut and the rest to the club", Plays.DRAWN_GAME + Plays.FOUR_BETS + """
            paid(0, 0) = 0; paid(0, 3) = 0; paid(0, 4) = throws IndexOutOfBoundsException;
            paid(0, -1) = throws IndexOutOfBoundsException; paid(1, 0) = throws IndexOutOfBoundsException;
            paid(0, 2147483647) = throws IndexOutOfBoundsException; club() = 0;
            """ + Plays.DRAWN_PLAY + """
            winner(0) = 0; paid(0, 0) = 50; paid(0, 1) = 0; paid(0, 2) = 16; paid(0, 3) = 0; club() = 1;
            purse(0) = 120; purse(1) = 80; purse(2) = 106; purse(3) = 93; pool(0) = 67; meanPurse() = 99.75;
            checksum() = 188737533615691; paid(0, 4) = throws IndexOutOfBoundsException;
            """);
        checks.script("promise 21, nobody bet on who won", """
            house(2, 2, 1, true, 'l') = 0; game(0, 0) = 0; bet(2, 0, 1, 40) = 40; lay(0, 2, true) = true;
            winner(0) = 0; paid(0, 0) = 0; purse(2) = 60; club() = 40; pool(0) = 40; game(0, 0) = 1;
            bet(2, 1, 0, 60) = 60; bet(1, 1, 1, 7) = 67; lay(1, 2, true) = true; paid(1, 0) = 67; purse(2) = 67;
            paid(1, 1) = 0; club() = 40; game(0, 0) = 2; lay(2, 2, true) = true; club() = 40;
            paid(2, 0) = throws IndexOutOfBoundsException;
            """);
        checks.script("promise 21, nobody won", "house(2, 2, 2, true, 'n') = 0; game(0, 10) = 0;" + Plays.FOUR_BETS
            + Plays.DRAWN_PLAY + "club() = 67; paid(0, 0) = 0; purse(0) = 70; checksum() = 188737458795180;");
    }

    private void appeals() {
        checks.script("promises 22 and 23", Plays.DRAWN_GAME + Plays.FOUR_BETS + """
            appeal(0, 's') = throws UnsupportedOperationException; appeal(0, 'x') = throws IllegalArgumentException;
            appeal(1, 'x') = throws IndexOutOfBoundsException; appeal(-1, 's') = throws IndexOutOfBoundsException;
            ruling(1) = throws IndexOutOfBoundsException; ruling(-1) = throws IndexOutOfBoundsException; ruling(0) = l;
            """ + Plays.DRAWN_PLAY + """
            appeal(0, 'l') = throws UnsupportedOperationException; appeal(0, 'L') = throws IllegalArgumentException;
            entries() = 13; appeal(0, 's') = 1; winner(0) = 1; ruling(0) = s; isBlocked(0) = true; paid(0, 0) = 0;
            paid(0, 1) = 49; paid(0, 2) = 0; paid(0, 3) = 17; club() = 1; purse(0) = 70; purse(1) = 129; purse(2) = 90;
            purse(3) = 110; pool(0) = 67; entries() = 14; entry(13) = a; gameOf(13) = 0;
            appeal(0, 's') = throws UnsupportedOperationException; appeal(0, 'n') = -1; ruling(0) = n; winner(0) = -1;
            paid(0, 1) = 0; club() = 67; purse(1) = 80; purse(3) = 93; entries() = 15;
            appeal(0, 's') = throws UnsupportedOperationException;
            appeal(0, 'l') = throws UnsupportedOperationException;
            appeal(0, 'z') = throws IllegalArgumentException; ruling(0) = n; club() = 67; isOver(0) = true;
            """);
        checks.script("promise 22, back to the first ruling", BLOCK + """
            appeal(0, 'n') = -1; appeal(0, 'l') = 1; ruling(0) = l;
            appeal(0, 'n') = throws UnsupportedOperationException;
            """);
        checks.script("promise 22, won without a block", """
            house(2, 2, 1, true, 'l') = 0; game(0, 0) = 0; lay(0, 2, true) = true;
            appeal(0, 's') = throws UnsupportedOperationException;
            appeal(0, 'n') = throws UnsupportedOperationException;
            checkpoint() = 0; appeal(0, 'n') = throws UnsupportedOperationException;
            """);
    }

    private void appealsAndCheckpoints() {
        checks.script("promise 22, a checkpoint since the end", BLOCK + """
            appeal(0, 's') = 1; checkpoint() = 0; appeal(0, 'n') = throws IllegalStateException;
            appeal(0, 's') = throws UnsupportedOperationException; appeal(0, 'q') = throws IllegalArgumentException;
            ruling(0) = s; crash() = 0; appeal(0, 'n') = throws IllegalStateException;
            """);
        checks.script("promise 22, a checkpoint just before the end", """
            house(2, 2, 3, false, 'l') = 0; game(0, 1) = 0; lay(0, 0, true) = false; lay(0, 1, true) = false;
            lay(0, 4, true) = false; lay(0, 2, true) = false; pass(0) = false; checkpoint() = 0; pass(0) = true;
            appeal(0, 'n') = -1; behind(0) = 2; replay(0) = 189376489756710; game(0, 1) = 1; crash() = 3;
            isOver(0) = false; ruling(0) = l; appeal(0, 'n') = throws UnsupportedOperationException; pass(0) = true;
            appeal(0, 's') = 1; appeal(0, 'n') = -1; appeal(0, 's') = throws UnsupportedOperationException; flush() = 3;
            crash() = 0; ruling(0) = n; checkpoint() = 1; appeal(0, 's') = throws UnsupportedOperationException;
            """);
        checks.script("promise 22, of two games one is too late", BLOCK + """
            game(0, 1) = 1; lay(1, 0, true) = false; lay(1, 1, true) = false; lay(1, 4, true) = false;
            lay(1, 2, true) = false; pass(1) = false; checkpoint() = 0; pass(1) = true;
            appeal(0, 'n') = throws IllegalStateException; appeal(1, 'n') = -1; checkpoint() = 1;
            appeal(1, 'l') = throws IllegalStateException;
            """);
        checks.script("promise 22, appeals are lost by a crash", BLOCK + """
            flush() = 7; appeal(0, 'n') = -1; appeal(0, 's') = 1; appeal(0, 'l') = throws UnsupportedOperationException;
            crash() = 2; ruling(0) = l; winner(0) = 1; appeal(0, 's') = 1; appeal(0, 'n') = -1;
            """);
    }

    private void owing() {
        checks.script("promises 18 and 22, a purse below 0", Plays.DRAWN_GAME + """
            bet(0, 0, 0, 100) = 100; bet(1, 0, 1, 100) = 200;
            """ + Plays.DRAWN_PLAY + """
            purse(0) = 200; game(0, 10) = 1; bet(0, 1, 0, 200) = 200; purse(0) = 0; appeal(0, 's') = 1;
            purse(0) = -200; purse(1) = 200; meanPurse() = 50.0; bet(0, 1, 0, 1) = throws IllegalArgumentException;
            bet(0, 1, 0, -300) = throws IllegalArgumentException; isSound() = true; checksum() = 8282301193188072001;
            bet(1, 1, 1, 200) = 400; purse(1) = 0; bet(2, 1, 1, 100) = 500; appeal(0, 'n') = -1; purse(1) = -200;
            purse(0) = -200; club() = 200; meanPurse() = -75.0; isSound() = true; lay(1, 0, true) = false;
            lay(1, 2, true) = false; draw(1) = 4; lay(1, 4, true) = false; draw(1) = 1; lay(1, 1, true) = false;
            pass(1) = false; pass(1) = true; winner(1) = 0; purse(0) = 300; appeal(1, 's') = 1; purse(0) = -200;
            purse(1) = 133; purse(2) = 166; club() = 201; purse(3) = 100; isSound() = true; checkpoint() = 0;
            """);
    }

    private void journal() {
        checks.script("promises 24 to 28", Plays.DRAWN_GAME + """
            entries() = 1; loose() = 1; entry(0) = g; gameOf(0) = 0; entry(1) = throws NoSuchElementException;
            gameOf(1) = throws NoSuchElementException; flush() = 1; flush() = 0; loose() = 0; game(0, 2) = 1;
            bet(0, 1, 0, 3) = 3; loose() = 2;
            """ + Plays.DRAWN_PLAY + """
            appeal(0, 'n') = -1; entries() = 12; loose() = 11; entry(1) = g; gameOf(1) = 1; entry(2) = b; gameOf(2) = 1;
            entry(3) = t; gameOf(3) = 0; entry(5) = d; entry(9) = p; entry(10) = p; entry(11) = a; gameOf(11) = 0;
            entry(12) = throws NoSuchElementException; entry(-1) = throws NoSuchElementException;
            gameOf(12) = throws NoSuchElementException; gameOf(-1) = throws NoSuchElementException;
            entry(2147483647) = throws NoSuchElementException; gameOf(-2147483648) = throws NoSuchElementException;
            lay(1, 5, true) = throws UnsupportedOperationException; entries() = 12; flush() = 11; loose() = 0;
            entries() = 12; crash() = 0; entries() = 12;
            """);
    }

    private void crashes() {
        checks.script("promise 29", Plays.DRAWN_GAME + Plays.FOUR_BETS + """
            flush() = 5; lay(0, 0, true) = false; lay(0, 2, true) = false; draw(0) = 4; bet(0, 0, 1, 5) = 72;
            game(0, 0) = 1; purse(0) = 65; loose() = 5; crash() = 5; crash() = 0; entries() = 5; loose() = 0;
            hand(0, 0) = 9; hand(0, 1) = 36; stock(0) = 2; line(0) = 0; mover(0) = 0; pool(0) = 67; purse(0) = 70;
            paid(0, 4) = throws IndexOutOfBoundsException; hand(1, 0) = throws IndexOutOfBoundsException;
            entry(5) = throws NoSuchElementException; game(0, 5) = 1; crash() = 1;
            """ + Plays.DRAWN_PLAY + """
            club() = 1; crash() = 8; club() = 0; isOver(0) = false; isBlocked(0) = false; purse(0) = 70; paid(0, 0) = 0;
            winner(0) = throws NoSuchElementException; playedShare() = 0.0;
            """);
        checks.script("promise 29, nothing was ever flushed", BLOCK + """
            bet(0, 0, 0, 1) = throws IllegalStateException; crash() = 7; entries() = 0; checksum() = 295834457;
            playedShare() = throws NoSuchElementException; isOver(0) = throws IndexOutOfBoundsException; game(0, 1) = 0;
            line(0) = 0; lay(0, 0, true) = false;
            """);
    }

    private void checkpoints() {
        checks.script("promises 30 and 31", Plays.DRAWN_GAME + """
            checkpoint() = 0; loose() = 0; flush() = 0; behind(0) = 0; lay(0, 0, true) = false; behind(0) = 1;
            checkpoint() = 1; behind(0) = 1; behind(1) = 0; lay(0, 2, true) = false; draw(0) = 4; behind(1) = 2;
            crash() = 2; behind(0) = 1; behind(1) = 0; entries() = 2; checkpoint() = 2; checkpoint() = 3;
            checkpoint() = 4; lay(0, 2, true) = false; checkpoint() = throws IllegalStateException; loose() = 1;
            bet(0, 0, 0, 1) = 1; checkpoint() = throws UnsupportedOperationException; loose() = 2; behind(4) = 2;
            behind(5) = throws IndexOutOfBoundsException; behind(-1) = throws IndexOutOfBoundsException;
            behind(2147483647) = throws IndexOutOfBoundsException; isSound() = true;
            crash() = 2; behind(0) = 1; checkpoint() = throws IllegalStateException;
            """);
    }

    private void checkpointsWaitForBets() {
        checks.script("promise 30, it waits for bets", Plays.DRAWN_GAME + """
            game(0, 0) = 1; bet(3, 0, 0, 2) = 2; checkpoint() = throws UnsupportedOperationException; loose() = 3;
            behind(0) = throws IndexOutOfBoundsException; lay(1, 2, true) = false; lay(1, 1, true) = false;
            lay(1, 4, true) = true; checkpoint() = throws UnsupportedOperationException;
            """ + Plays.DRAWN_PLAY + """
            checkpoint() = 0; loose() = 0; game(0, 1) = 2; checkpoint() = 1; bet(3, 2, 0, 2) = 2;
            checkpoint() = throws UnsupportedOperationException; crash() = 1; checkpoint() = 2; entries() = 15;
            """);
    }

    private void replays() {
        checks.script("promise 32", BLOCK + """
            checkpoint() = 0; game(0, 1) = 1; bet(0, 1, 1, 60) = 60; bet(1, 1, 0, 9) = 69; lay(1, 0, true) = false;
            lay(1, 1, true) = false; flush() = 5; lay(1, 4, true) = false; replay(1) = throws IndexOutOfBoundsException;
            replay(-2) = throws IndexOutOfBoundsException; replay(2147483647) = throws IndexOutOfBoundsException;
            replay(-2147483648) = throws IndexOutOfBoundsException; lay(1, 2, true) = false; pass(1) = false;
            pass(1) = true; purse(0) = 109; checkpoint() = 1; behind(0) = 9; behind(1) = 0; entries() = 16;
            """);
        Caller caller = new Caller();
        Dominofs club = caller.club;
        checks.script("promise 32, before", caller, BLOCK + """
            checkpoint() = 0; game(0, 5) = 1; bet(0, 1, 0, 30) = 30; lay(1, 3, true) = false; flush() = 3;
            lay(1, 1, true) = false;
            """);
        long sum = club.checksum();
        checks.due("promise 32: replay(0) with loose entries", sum, club.replay(0));
        checks.due("promise 32: replay(-1) with loose entries", sum, club.replay(-1));
        checks.script("promise 32, it changed nothing", caller, """
            entries() = 11; loose() = 1; hand(1, 0) = 48; hand(1, 1) = 5; purse(0) = 70; mover(1) = 0; behind(0) = 4;
            crash() = 1; hand(1, 1) = 7;
            """);
        checks.due("promise 32: another sum once the last entry is lost", true, sum != club.replay(0));
        checks.due("promise 32: replay(0) when the last entry is lost", club.checksum(), club.replay(0));
    }

    private void figures() {
        checks.script("promise 33, the hand modulo 1000003", """
            house(6, 2, 7, false, 'l') = 0; game(0, 999999) = 0; checksum() = 9954621175843566;
            """);
        checks.script("promise 33, the winner", """
            house(2, 2, 3, false, 'l') = 0; game(0, 1) = 0; checksum() = 186437936439768; lay(0, 0, true) = false;
            lay(0, 1, true) = false; lay(0, 4, true) = false; lay(0, 2, true) = false; pass(0) = false; pass(0) = true;
            checksum() = 189376547015012; appeal(0, 'n') = -1; checksum() = 189376489756710;
            replay(-1) = 189376489756710;
            """);
        checks.script("promises 34 to 36", """
            house(2, 2, 1, true, 'l') = 0; playedShare() = throws NoSuchElementException; game(0, 0) = 0;
            playedShare() = 0.0; game(0, 0) = 1; game(0, 0) = 2; lay(1, 2, true) = true; playedShare() = 0.33333334;
            lay(0, 2, true) = true; playedShare() = 0.6666667; lay(2, 2, true) = true; playedShare() = 1.0;
            meanPurse() = 100.0; game(0, 0) = 3; playedShare() = 0.75; bet(0, 3, 1, 1) = 1; meanPurse() = 99.75;
            isSound() = true; lay(3, 2, true) = true; meanPurse() = 99.75; club() = 1; isSound() = true; crash() = 9;
            playedShare() = throws NoSuchElementException; meanPurse() = 100.0; isSound() = true;
            """);
    }
}
