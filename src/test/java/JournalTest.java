/** The boundary cases of the promises 24 to 32: entries, crashes, checkpoints and replays. */
final class JournalTest {
    private static final String THREE_ENTRIES = Plays.DRAWN_GAME + """
        flush() = 1; bet(0, 0, 0, 5) = 5; lay(0, 0, true) = false;
        """;
    private static final String FIVE_CHECKPOINTS = """
        checkpoint() = 0; checkpoint() = 1; checkpoint() = 2; checkpoint() = 3; checkpoint() = 4;
        """;
    private static final String NO_SUCH_ENTRY = "Throws NoSuchElementException if there is no such entry";
    private static final String NO_SUCH_CHECKPOINT = "Throws IndexOutOfBoundsException if there is no such checkpoint";

    private final Cases cases;

    private JournalTest(Cases cases) {
        this.cases = cases;
    }

    static void run(Cases cases) {
        JournalTest test = new JournalTest(cases);
        test.entries();
        test.loose();
        test.kinds();
        test.noSuchEntry();
        test.flushes();
        test.crashes();
        test.checkpoints();
        test.checkpointsRefused();
        test.fullOfCheckpoints();
        test.behind();
        test.replays();
        test.replaysOfLosses();
    }

    private void entries() {
        cases.promise(24, "Returns how many entries there are.")
            .holds("none, and as many as are allowed", "entries() = 0;" + FullJournal.of(400) + """
                entries() = 400; crash() = 400; entries() = 0;
                """)
            .changesNothing("none", "", "entries() = 0;")
            .changesNothing("three", THREE_ENTRIES, "entries() = 3;");
    }

    private void loose() {
        cases.promise(25, "Returns how many entries are loose.")
            .holds("none, one, and none again", Plays.DRAWN_GAME + """
                loose() = 1; flush() = 1; loose() = 0; entries() = 1; lay(0, 0, true) = false; loose() = 1; crash() = 1;
                loose() = 0; checkpoint() = 0; loose() = 0;
                """)
            .holds("all 400, and the last one", FullJournal.of(399) + """
                loose() = 399; flush() = 399; bet(0, 4, 0, 1) = 10; loose() = 1;
                """)
            .changesNothing("none", "", "loose() = 0;")
            .changesNothing("two", THREE_ENTRIES, "loose() = 2;");
    }

    private void kinds() {
        String each = Plays.DRAWN_GAME + "game(0, 10) = 1; bet(3, 1, 1, 2) = 2;" + Plays.DRAWN_PLAY
            + "appeal(0, 's') = 1; lay(1, 0, true) = false;";
        cases.promise(26, "Returns 'g' a game begun, 't' a tile laid, 'd' a drawing, 'p' a passing, 'b' a bet, 'a' an"
            + " appeal.").holds("the first, each kind, and the last", each + """
            entry(0) = g; entry(1) = g; entry(2) = b; entry(3) = t; entry(4) = t; entry(5) = d; entry(6) = t;
            entry(7) = d; entry(8) = t; entry(9) = p; entry(10) = p; entry(11) = a; entry(12) = t;
            entry(13) = throws NoSuchElementException;
            """);
        cases.promise(27, "Returns the number of the game.").holds("the first, each kind, and the last", each + """
            gameOf(0) = 0; gameOf(1) = 1; gameOf(2) = 1; gameOf(3) = 0; gameOf(5) = 0; gameOf(9) = 0; gameOf(11) = 0;
            gameOf(12) = 1; gameOf(13) = throws NoSuchElementException;
            """);
        for (int promise = 26; promise <= 27; promise++) {
            String call = promise == 26 ? "entry" : "gameOf";
            cases.promise(promise, "index: the number of the entry")
                .holds("of one entry", Plays.DRAWN_GAME + call + "(0) = " + (promise == 26 ? "g" : "0") + ";" + call
                    + "(1) = throws NoSuchElementException;")
                .holds("of 400 entries", FullJournal.of(399) + "bet(0, 4, 0, 1) = 10;" + call + "(0) = "
                    + (promise == 26 ? "g" : "0") + ";" + call + "(399) = " + (promise == 26 ? "b" : "4") + ";" + call
                    + "(400) = throws NoSuchElementException;");
        }
    }

    private void noSuchEntry() {
        for (int promise = 26; promise <= 27; promise++) {
            String call = promise == 26 ? "entry" : "gameOf";
            Cases.Case each = cases.promise(promise, NO_SUCH_ENTRY);
            String row = call + "(%) = throws NoSuchElementException;";
            each.changesNothing("no entry", "", Plays.put(row, 0) + Plays.put(row, -1));
            each.changesNothing("of three, one beyond on either side, and far beyond", THREE_ENTRIES, Plays.put(row, -1)
                + Plays.put(row, 3) + Plays.put(row, 4) + Plays.put(row, Integer.MIN_VALUE)
                + Plays.put(row, Integer.MAX_VALUE));
            each.changesNothing("a crash lost it", THREE_ENTRIES + "crash() = 2;", Plays.put(row, 1)
                + Plays.put(row, 2));
            each.changesNothing("of 400, one beyond on either side", FullJournal.of(400), Plays.put(row, 400)
                + Plays.put(row, -1));
        }
    }

    private void flushes() {
        cases.promise(28, "Returns how many entries were loose.")
            .holds("none", "flush() = 0;" + Plays.DRAWN_GAME + "flush() = 1; flush() = 0; crash() = 0; entries() = 1;")
            .holds("all 400", FullJournal.of(400)
            + "flush() = 400; flush() = 0; loose() = 0; crash() = 0; entries() = 400;")
            .changesNothing("none", "", "flush() = 0;")
            .changesNothing("none any more", Plays.DRAWN_GAME + "flush() = 1;", "flush() = 0;");
    }

    private void crashes() {
        cases.promise(29, "Lets all loose entries be lost.")
            .holds("the only one", Plays.DRAWN_GAME + """
                crash() = 1; entries() = 0; loose() = 0; playedShare() = throws NoSuchElementException; game(0, 10) = 0;
                """)
            .holds("the last one alone", THREE_ENTRIES + """
                flush() = 2; lay(0, 2, true) = false; crash() = 1; entries() = 3; entry(2) = t; line(0) = 5;
                mover(0) = 1;
                hand(0, 1) = 36; pool(0) = 5; purse(0) = 95;
                """)
            .holds("the end of a game, what was paid, and appeals", Plays.QUICK_HOUSE + Plays.quickGame(0)
                + "bet(0, 0, 1, 5) = 5; bet(1, 0, 0, 6) = 11; flush() = 3;" + Plays.quickBlock(0) + """
                purse(0) = 106; appeal(0, 's') = 0; purse(1) = 105; crash() = 4; isOver(0) = false;
                isBlocked(0) = false;
                winner(0) = throws NoSuchElementException; ruling(0) = l; purse(0) = 95; purse(1) = 94; paid(0, 0) = 0;
                paid(0, 1) = 0; pool(0) = 11; line(0) = 0; hand(0, 0) = 40; mover(0) = 0;
                """ + Plays.quickBlock(0) + "purse(0) = 106; appeal(0, 's') = 0; appeal(0, 'n') = -1;");
        Cases.Case each = cases.promise(29, "Returns how many there were.");
        each.changesNothing("none", "", "crash() = 0;");
        each.changesNothing("none any more", Plays.DRAWN_GAME + Plays.DRAWN_PLAY + "flush() = 9;", "crash() = 0;");
        each.changesNothing("none, behind a checkpoint", Plays.DRAWN_GAME + Plays.DRAWN_PLAY + "checkpoint() = 0;",
            "crash() = 0;");
        each.holds("one behind the other", Plays.DRAWN_GAME
            + "crash() = 1; crash() = 0; game(0, 10) = 0; crash() = 1;");
        each.holds("all 400, then some anew", FullJournal.of(400) + """
            crash() = 400; crash() = 0; game(3, 10) = 0; lay(0, 0, true) = false; entries() = 2; crash() = 2;
            """);
    }

    private void checkpoints() {
        cases.promise(30, "Returns its number.")
            .holds("the first and the last one", FIVE_CHECKPOINTS + "behind(0) = 0; behind(4) = 0;")
            .holds("behind 400 entries", FullJournal.ofGamesThatAreOver() + """
                entries() = 400; loose() = 400; isOver(4) = true; checkpoint() = 0; loose() = 0; behind(0) = 0;
                crash() = 0; entries() = 400; isOver(4) = true;
                """);
        cases.promise(30, "Makes a checkpoint.").holds("it is no entry", Plays.DRAWN_GAME + """
            entries() = 1; checkpoint() = 0; entries() = 1; loose() = 0; entry(1) = throws NoSuchElementException;
            """);
    }

    private void checkpointsRefused() {
        Cases.Case each = cases.promise(30,
            "Throws UnsupportedOperationException if there are bets on a game that is not over");
        String row = "checkpoint() = throws UnsupportedOperationException;";
        each.changesNothing("one bet of one coin", Plays.DRAWN_GAME + "bet(0, 0, 0, 1) = 1;", row);
        each.changesNothing("10 bets", Plays.DRAWN_GAME + Plays.TEN_BETS, row);
        each.changesNothing("just before the end", Plays.DRAWN_GAME + "bet(0, 0, 0, 1) = 1;" + Plays.DRAWN_BUT_LAST,
            row);
        each.changesNothing("a bet that is flushed", Plays.DRAWN_GAME + "bet(0, 0, 0, 1) = 1; flush() = 2;", row);
        each.changesNothing("on the first of two games", Plays.DRAWN_GAME + "game(0, 10) = 1; bet(0, 0, 0, 1) = 1;",
            row);
        each.changesNothing("on the last of two games", Plays.DRAWN_GAME + "game(0, 10) = 1; bet(0, 1, 0, 1) = 1;",
            row);
        each.changesNothing("one game with bets is over, another is not", Plays.QUICK_HOUSE + Plays.quickGame(0)
            + "bet(0, 0, 0, 1) = 1;" + Plays.quickBlock(0) + "game(0, 22) = 1; bet(0, 1, 0, 1) = 1;", row);
        each.holds("no game, games without bets, games that are over", """
            house(2, 2, 2, false, 'l') = 0; checkpoint() = 0; game(0, 22) = 0; checkpoint() = 1; bet(0, 0, 0, 1) = 1;
            checkpoint() = throws UnsupportedOperationException; lay(0, 3, true) = false; pass(0) = false;
            pass(0) = true;
            checkpoint() = 2; game(0, 22) = 1; checkpoint() = 3;
            """);
        each.changesNothing("listed first, when there are 5", FIVE_CHECKPOINTS + Plays.DRAWN_GAME
            + "bet(0, 0, 0, 1) = 1;", row);
    }

    private void fullOfCheckpoints() {
        Cases.Case each = cases.promise(30, "Throws IllegalStateException if there are 5");
        each.changesNothing("5, and no entry", FIVE_CHECKPOINTS, "checkpoint() = throws IllegalStateException;");
        each.changesNothing("5, and loose entries", FIVE_CHECKPOINTS + Plays.DRAWN_GAME, """
            checkpoint() = throws IllegalStateException;
            """);
        each.holds("4, 5, and one more", Plays.DRAWN_GAME + """
            checkpoint() = 0; lay(0, 0, true) = false; checkpoint() = 1; lay(0, 2, true) = false; checkpoint() = 2;
            draw(0) = 4; checkpoint() = 3; lay(0, 4, true) = false; checkpoint() = 4; draw(0) = 1;
            checkpoint() = throws IllegalStateException; loose() = 1; crash() = 1; behind(4) = 0; behind(0) = 4;
            checkpoint() = throws IllegalStateException;
            """);
    }

    private void behind() {
        cases.promise(31, "checkpoint: the number of the checkpoint").holds("the least and the greatest",
            "checkpoint() = 0;" + Plays.DRAWN_GAME + """
            checkpoint() = 1; lay(0, 0, true) = false; checkpoint() = 2; checkpoint() = 3; lay(0, 2, true) = false;
            checkpoint() = 4; draw(0) = 4; behind(0) = 4; behind(1) = 3; behind(2) = 2; behind(3) = 2; behind(4) = 1;
            """);
        cases.promise(31, "Returns how many entries came behind a checkpoint.")
            .holds("none, and all 400", "checkpoint() = 0; behind(0) = 0;" + FullJournal.of(400) + """
                behind(0) = 400; crash() = 400; behind(0) = 0;
                """)
            .holds("those that a crash lost did not", Plays.DRAWN_GAME + """
                checkpoint() = 0; lay(0, 0, true) = false; flush() = 1; lay(0, 2, true) = false; behind(0) = 2;
                crash() = 1; behind(0) = 1;
                """);
        Cases.Case each = cases.promise(31, NO_SUCH_CHECKPOINT);
        each.changesNothing("no checkpoint", Plays.DRAWN_GAME, """
            behind(0) = throws IndexOutOfBoundsException; behind(-1) = throws IndexOutOfBoundsException;
            """);
        each.changesNothing("of one, one beyond on either side", "checkpoint() = 0;" + Plays.DRAWN_GAME, """
            behind(1) = throws IndexOutOfBoundsException; behind(-1) = throws IndexOutOfBoundsException; behind(0) = 1;
            """);
        each.changesNothing("of five, one beyond on either side, and far beyond", FIVE_CHECKPOINTS, """
            behind(5) = throws IndexOutOfBoundsException; behind(-1) = throws IndexOutOfBoundsException;
            behind(-2147483648) = throws IndexOutOfBoundsException;
            behind(2147483647) = throws IndexOutOfBoundsException;
            """);
        each.changesNothing("a checkpoint that was refused is none", Plays.DRAWN_GAME + """
            bet(0, 0, 0, 1) = 1; checkpoint() = throws UnsupportedOperationException;
            """, "behind(0) = throws IndexOutOfBoundsException;");
    }

    private void replays() {
        String sum = "187257074035881";
        cases.promise(32, "checkpoint: the number of the checkpoint, or -1 for nothing").changesNothing(
            "nothing, the least and the greatest", """
            house(2, 2, 3, false, 'l') = 0; checkpoint() = 0; checkpoint() = 1; checkpoint() = 2; checkpoint() = 3;
            checkpoint() = 4; game(0, 5) = 0; bet(0, 0, 0, 30) = 30; bet(1, 0, 1, 20) = 50; lay(0, 3, false) = false;
            """, "replay(-1) = " + sum + "; replay(0) = " + sum + "; replay(4) = " + sum + ";");
        Cases.Case each = cases.promise(32, "Throws IndexOutOfBoundsException if there is no such checkpoint, and it is"
            + " not -1");
        each.changesNothing("no checkpoint", Plays.DRAWN_GAME, """
            replay(0) = throws IndexOutOfBoundsException; replay(-2) = throws IndexOutOfBoundsException;
            """);
        String five = FIVE_CHECKPOINTS + Plays.DRAWN_GAME;
        each.changesNothing("of five, one beyond on either side, and far beyond", five, """
            replay(5) = throws IndexOutOfBoundsException; replay(-2) = throws IndexOutOfBoundsException;
            replay(-2147483648) = throws IndexOutOfBoundsException;
            replay(2147483647) = throws IndexOutOfBoundsException;
            """);
    }

    private void replaysOfLosses() {
        Cases.Case each = cases.promise(32, "Returns the checksum of what comes of it.");
        each.changesNothing("no entry", "checkpoint() = 0;", "replay(-1) = 295834457; replay(0) = 295834457;");
        each.changesNothing("a game of four players that went on behind it", """
            house(6, 4, 3, false, 'l') = 0; game(0, 268) = 0; lay(0, 0, true) = false; pass(0) = false;
            checkpoint() = 0; pass(0) = false; pass(0) = false; checkpoint() = 1; lay(0, 1, true) = false;
            """, "replay(0) = 3806893517890685712; replay(1) = 3806893517890685712; replay(-1) = 3806893517890685712;");
        each.changesNothing("drawings and a block behind it, ruled by who laid before it", """
            house(2, 2, 2, true, 's') = 0; game(0, 10) = 0; checkpoint() = 0; lay(0, 0, true) = false;
            lay(0, 2, true) = false; checkpoint() = 1; draw(0) = 4; lay(0, 4, true) = false; draw(0) = 1;
            checkpoint() = 2; lay(0, 1, true) = false; checkpoint() = 3; pass(0) = false; checkpoint() = 4;
            pass(0) = true; winner(0) = 1;
            """, """
            replay(0) = 188737544364692; replay(1) = 188737544364692; replay(2) = 188737544364692;
            replay(3) = 188737544364692; replay(4) = 188737544364692; replay(-1) = 188737544364692;
            """);
        each.changesNothing("a crash lost all that came behind", "checkpoint() = 0;" + Plays.DRAWN_GAME
            + "crash() = 1;",
            "replay(-1) = 295834457; replay(0) = 295834457;");
        each.changesNothing("a game that was over at the checkpoint, and one behind it", Plays.QUICK_HOUSE
            + Plays.blockedGame(0) + "checkpoint() = 0;" + Plays.quickGame(1) + "bet(0, 1, 0, 7) = 7;"
            + Plays.quickBlock(1) + "appeal(1, 's') = 0;", """
            replay(-1) = 6506987782087540420; replay(0) = 6506987782087540420; checksum() = 6506987782087540420;
            """);
        each.holds("replays one behind the other", Plays.DRAWN_GAME + Plays.FOUR_BETS + Plays.DRAWN_PLAY + """
            checkpoint() = 0; game(0, 10) = 1; replay(0) = 8282274753857868680; replay(-1) = 8282274753857868680;
            replay(0) = 8282274753857868680; crash() = 1; replay(0) = 188737533615691; replay(-1) = 188737533615691;
            """);
    }
}
