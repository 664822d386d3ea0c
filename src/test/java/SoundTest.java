import java.lang.reflect.Constructor;
import java.lang.reflect.Field;
import java.lang.reflect.Method;
import java.util.List;

/**
 * No run of calls can make isSound false. So these cases break a club from within; they know the names of its fields
 * and of its entries, and are to be changed with them.
 */
final class SoundTest {
    private static final String ENTRIES = Plays.QUICK_HOUSE + Plays.quickGame(0)
        + "bet(0, 0, 1, 30) = 30; bet(1, 0, 0, 9) = 39;" + Plays.quickBlock(0)
        + "checkpoint() = 0; checkpoint() = 1; checkpoint() = 2; checkpoint() = 3; checkpoint() = 4;"
        + Plays.quickGame(1) + "lay(1, 3, true) = false; bet(2, 1, 0, 7) = 7; flush() = 3; pass(1) = false;";

    private final Cases cases;

    private SoundTest(Cases cases) {
        this.cases = cases;
    }

    static void run(Cases cases) {
        SoundTest test = new SoundTest(cases);
        try {
            test.replays();
            test.tiles();
            test.coins();
        } catch (ReflectiveOperationException e) {
            cases.promise(36, "Tells whether replays").due("what is within", "as it was", e.toString());
        }
    }

    private static Dominofs club(String rows) {
        Caller caller = new Caller();
        for (Rows.Row row : Rows.of(rows)) {
            caller.ask(row.call());
        }
        return caller.club;
    }

    private void replays() throws ReflectiveOperationException {
        Cases.Case each = cases.promise(36,
            "Tells whether replays from nothing and from each checkpoint come to what is");
        Dominofs club = club(ENTRIES);
        moveCoins(each, "what is", club, get(club, "now"));
        for (int checkpoint = 0; checkpoint < 5; checkpoint++) {
            moveCoins(each, "the checkpoint " + checkpoint, club, ((List<?>) get(club, "checkpoints")).get(checkpoint));
        }
        breakGame(each, club, gameOf(get(club, "now"), 0), "of the game 0", 1);
        breakGame(each, club, gameOf(get(club, "now"), 1), "of the game 1", 0);
        Object kept = ((List<?>) get(club, "checkpoints")).get(0);
        breakGame(each, club, gameOf(kept, 0), "of the game 0 that the checkpoint 0 keeps", 1);
        breakRow(each, club, kept, "purses", 0, 3, "of the checkpoint 0");
        breakNumber(each, club, kept, "clubCoins", "of the checkpoint 0");
        each.due("all as it was", true, club.isSound());
    }

    private static Object gameOf(Object table, int game) throws ReflectiveOperationException {
        return ((Object[]) get(table, "games"))[game];
    }

    /** Changes all that a game knows, one after the other; lastBet is the last bet that is changed. */
    private static void breakGame(Cases.Case each, Dominofs club, Object game, String which, int lastBet)
            throws ReflectiveOperationException {
        for (String name : List.of("mover", "winner", "laid", "dealt", "appeals", "lastLayer", "passes")) {
            breakNumber(each, club, game, name, which);
        }
        breakRow(each, club, game, "hands", 0, 1, which);
        breakRow(each, club, game, "order", 4, 5, which);
        breakRow(each, club, game, "chain", 0, 1, which);
        Object bets = get(game, "bets");
        breakNumber(each, club, bets, "count", which);
        breakNumber(each, club, bets, "coins", which);
        for (String name : List.of("betters", "players", "stakes", "payments")) {
            breakRow(each, club, bets, name, 0, lastBet, which);
        }
    }

    private static void breakNumber(Cases.Case each, Dominofs club, Object owner, String name, String which)
            throws ReflectiveOperationException {
        Field field = find(owner.getClass(), name);
        int kept = field.getInt(owner);
        field.setInt(owner, kept + 1);
        each.due("another " + name + " " + which, false, club.isSound());
        field.setInt(owner, kept);
    }

    private static void breakRow(Cases.Case each, Dominofs club, Object owner, String name, int first, int last,
            String which) throws ReflectiveOperationException {
        int[] row = (int[]) get(owner, name);
        for (int place = first; place <= last; place++) {
            row[place] ^= 1;
            each.due("others in " + name + " at " + place + " " + which, false, club.isSound());
            row[place] ^= 1;
        }
    }

    /** All coins are still 400. */
    private static void moveCoins(Cases.Case each, String what, Dominofs club, Object table)
            throws ReflectiveOperationException {
        int[] purses = (int[]) get(table, "purses");
        each.due("sound, " + what, true, club.isSound());
        purses[0]++;
        purses[3]--;
        each.due("a coin is in another purse, " + what, false, club.isSound());
        purses[0]--;
        find(table.getClass(), "clubCoins").setInt(table, 1);
        each.due("a coin of a purse is the club's, " + what, false, club.isSound());
        find(table.getClass(), "clubCoins").setInt(table, 0);
        purses[3]++;
    }

    private void tiles() throws ReflectiveOperationException {
        Cases.Case each = cases.promise(36, "tiles of each game are each in one place");
        each.due("in the line and in a hand", false, soundBehind(ENTRIES, "TileLaid", 1, 0, true));
        each.due("in the line and in a hand, though it fits", false, soundBehind(ENTRIES, "TileLaid", 1, 2, true));
        each.due("twice in the line", false, soundBehind(ENTRIES, "TileLaid", 1, 3, true));
        each.due("in the line and in the stock", false, soundBehind(ENTRIES, "TileLaid", 1, 4, true));
        String twoGames = Plays.QUICK_HOUSE + Plays.quickGame(0) + Plays.quickGame(1);
        each.due("in the line and in a hand, of the first game", false, soundBehind(twoGames, "TileLaid", 0, 0, true));
        each.due("in the line alone, of the first game", true, soundBehind(twoGames, "TileLaid", 0, 3, true));
        each.due("an entry as all are", true, soundBehind(ENTRIES, "CoinsBet", 1, 0, 0, 1));
    }

    private void coins() throws ReflectiveOperationException {
        Cases.Case each = cases.promise(36, "purses, the club and pools of games that are not over make 400");
        each.due("a pool is paid twice", false, soundBehind(ENTRIES, "CoinsBet", 0, 0, 0, 1));
    }

    /** Tells whether a club is sound behind an entry that no call would make; each replay does it, too. */
    private static boolean soundBehind(String rows, String kind,
        Object... arguments) throws ReflectiveOperationException {
        Dominofs club = club(rows);
        Class<?> type = Class.forName("Dominofs$" + kind);
        Constructor<?> constructor = type.getDeclaredConstructors()[0];
        constructor.setAccessible(true);
        for (Method method : Dominofs.class.getDeclaredMethods()) {
            if (method.getName().equals("enter")) {
                method.setAccessible(true);
                method.invoke(club, constructor.newInstance(arguments));
            }
        }
        return club.isSound();
    }

    private static Object get(Object target, String name) throws ReflectiveOperationException {
        return find(target.getClass(), name).get(target);
    }

    private static Field find(Class<?> type, String name) throws ReflectiveOperationException {
        Field field = type.getDeclaredField(name);
        field.setAccessible(true);
        return field;
    }
}
