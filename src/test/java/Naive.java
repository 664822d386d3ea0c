import java.util.ArrayDeque;
import java.util.ArrayList;
import java.util.Arrays;
import java.util.List;
import java.util.NoSuchElementException;
import java.util.TreeSet;

/**
 * The document told once more, as slowly and plainly as can be, to compare with: it keeps the entries alone, and works
 * out all that is from nothing whenever they change.
 */
final class Naive {
    static final class Tiles {
        final int pips;
        final List<int[]> all = new ArrayList<>();

        Tiles(int pips) {
            this.pips = pips;
            for (int low = 0; low <= pips; low++) {
                for (int high = low; high <= pips; high++) {
                    all.add(new int[] {low, high});
                }
            }
        }
    }

    static final class House {
        Tiles set;
        int players;
        int tiles;
        boolean areDraws;
        char ruling;
    }

    static final class Bet {
        int better;
        int player;
        int coins;
        int paid;
    }

    static final class Game {
        House house;
        final List<TreeSet<Integer>> hands = new ArrayList<>();
        final ArrayDeque<Integer> stock = new ArrayDeque<>();
        final List<int[]> line = new ArrayList<>();
        final List<Bet> bets = new ArrayList<>();
        int mover;
        int passesInRow;
        int last = -1;
        boolean over;
        boolean blocked;
        int winner;
        char ruling;
        int appeals;
        int endEntry;
        int toClub;

        int[] tile(int number) {
            return house.set.all.get(number);
        }

        Integer endNumber(boolean isLeft) {
            if (line.isEmpty()) {
                return null;
            }
            return isLeft ? line.get(0)[0] : line.get(line.size() - 1)[1];
        }

        boolean fits(int number, boolean isLeft) {
            Integer end = endNumber(isLeft);
            return end == null || tile(number)[0] == end || tile(number)[1] == end;
        }

        boolean anyFits() {
            for (int number : hands.get(mover)) {
                if (fits(number, true) || fits(number, false)) {
                    return true;
                }
            }
            return false;
        }

        boolean drawable() {
            return house.areDraws && !stock.isEmpty();
        }

        int pips(int player) {
            int sum = 0;
            for (int number : hands.get(player)) {
                sum += tile(number)[0] + tile(number)[1];
            }
            return sum;
        }

        int ruled() {
            switch (ruling) {
                case 'n':
                    return -1;
                case 's':
                    return last;
                default:
                    int[] sums = new int[house.players];
                    for (int player = 0; player < sums.length; player++) {
                        sums[player] = pips(player);
                    }
                    int least = Arrays.stream(sums).min().getAsInt();
                    int found = -1;
                    for (int player = 0; player < sums.length; player++) {
                        if (sums[player] == least) {
                            if (found >= 0) {
                                return -1;
                            }
                            found = player;
                        }
                    }
                    return found;
            }
        }

        String written(boolean isTurned) {
            StringBuilder text = new StringBuilder();
            for (int i = 0; i < line.size(); i++) {
                int[] tile = isTurned ? line.get(line.size() - 1 - i) : line.get(i);
                text.append('[').append(isTurned ? tile[1] : tile[0]).append('|')
                        .append(isTurned ? tile[0] : tile[1]).append(']');
            }
            return text.toString();
        }
    }

    static final class State {
        final List<Game> games = new ArrayList<>();
        final int[] purses = {100, 100, 100, 100};
        int club;
    }

    final List<House> houses = new ArrayList<>();
    /** Kind, game, then what the call was given. */
    final List<int[]> log = new ArrayList<>();
    final List<Integer> checkpoints = new ArrayList<>();
    int flushed;
    String reason = "";
    State state = new State();

    // Working out what is.

    private void add(int... entry) {
        log.add(entry);
        state = workOut();
    }

    private State workOut() {
        State made = new State();
        for (int i = 0; i < log.size(); i++) {
            step(made, log.get(i), i);
        }
        return made;
    }

    private void step(State in, int[] entry, int index) {
        if (entry[0] == 'g') {
            in.games.add(begun(houses.get(entry[2]), entry[3]));
            return;
        }
        Game game = in.games.get(entry[1]);
        boolean wasOver = game.over;
        switch (entry[0]) {
            case 't':
                layOn(game, entry[2], entry[3] == 1);
                break;
            case 'd':
                game.hands.get(game.mover).add(game.stock.removeFirst());
                break;
            case 'p':
                game.passesInRow++;
                game.mover = (game.mover + 1) % game.house.players;
                if (game.passesInRow == game.house.players) {
                    game.over = true;
                    game.blocked = true;
                    game.winner = game.ruled();
                }
                break;
            case 'b':
                Bet bet = new Bet();
                bet.better = entry[2];
                bet.player = entry[3];
                bet.coins = entry[4];
                game.bets.add(bet);
                in.purses[bet.better] -= bet.coins;
                break;
            default:
                for (Bet each : game.bets) {
                    in.purses[each.better] -= each.paid;
                }
                in.club -= game.toClub;
                game.ruling = (char) entry[2];
                game.appeals++;
                game.winner = game.ruled();
                payOut(in, game);
        }
        if (game.over && !wasOver) {
            game.endEntry = index;
            payOut(in, game);
        }
    }

    private static Game begun(House house, int seed) {
        Game game = new Game();
        game.house = house;
        game.ruling = house.ruling;
        int[] tiles = new int[house.set.all.size()];
        for (int i = 0; i < tiles.length; i++) {
            tiles[i] = i;
        }
        java.math.BigInteger z = java.math.BigInteger.valueOf(seed);
        for (int place = tiles.length - 1; place >= 1; place--) {
            z = z.multiply(java.math.BigInteger.valueOf(1103515245)).add(java.math.BigInteger.valueOf(12345))
                    .mod(java.math.BigInteger.valueOf(2147483648L));
            int other = z.divide(java.math.BigInteger.valueOf(65536))
                    .mod(java.math.BigInteger.valueOf(place + 1)).intValue();
            int kept = tiles[place];
            tiles[place] = tiles[other];
            tiles[other] = kept;
        }
        int next = 0;
        for (int player = 0; player < house.players; player++) {
            TreeSet<Integer> hand = new TreeSet<>();
            for (int i = 0; i < house.tiles; i++) {
                hand.add(tiles[next++]);
            }
            game.hands.add(hand);
        }
        while (next < tiles.length) {
            game.stock.addLast(tiles[next++]);
        }
        return game;
    }

    private static void layOn(Game game, int number, boolean isLeft) {
        int[] tile = game.tile(number).clone();
        int[] turned = {tile[1], tile[0]};
        if (game.line.isEmpty()) {
            game.line.add(tile);
        } else if (isLeft) {
            game.line.add(0, tile[1] == game.endNumber(true) ? tile : turned);
        } else {
            game.line.add(tile[0] == game.endNumber(false) ? tile : turned);
        }
        game.hands.get(game.mover).remove(number);
        game.last = game.mover;
        game.passesInRow = 0;
        if (game.hands.get(game.mover).isEmpty()) {
            game.over = true;
            game.winner = game.mover;
        }
        game.mover = (game.mover + 1) % game.house.players;
    }

    private static void payOut(State in, Game game) {
        int pool = sum(game, -1);
        int onWinner = game.winner < 0 ? 0 : sum(game, game.winner);
        int rest = pool;
        for (Bet bet : game.bets) {
            bet.paid = game.winner >= 0 && bet.player == game.winner
                    ? java.math.BigInteger.valueOf(pool).multiply(java.math.BigInteger.valueOf(bet.coins))
                            .divide(java.math.BigInteger.valueOf(onWinner)).intValue()
                    : 0;
            in.purses[bet.better] += bet.paid;
            rest -= bet.paid;
        }
        game.toClub = rest;
        in.club += rest;
    }

    private static int sum(Game game, int player) {
        int sum = 0;
        for (Bet bet : game.bets) {
            if (player < 0 || bet.player == player) {
                sum += bet.coins;
            }
        }
        return sum;
    }

    static long sumOf(State in) {
        long sum = 7;
        for (Game game : in.games) {
            sum = sum * 31 + game.line.size();
            for (TreeSet<Integer> hand : game.hands) {
                sum = sum * 31 + mask(hand) % 1000003;
            }
            sum = sum * 31 + (game.over ? game.winner : -2);
        }
        for (int purse : in.purses) {
            sum = sum * 31 + purse;
        }
        return sum * 31 + in.club;
    }

    private static long mask(TreeSet<Integer> hand) {
        long sum = 0;
        for (int number : hand) {
            sum += (long) Math.pow(2, number);
        }
        return sum;
    }

    private Game find(int game) {
        if (game < 0 || game >= state.games.size()) {
            throw new IndexOutOfBoundsException();
        }
        return state.games.get(game);
    }

    private void mustGoOn(Game game) {
        if (game.over || log.size() >= 400) {
            throw new IllegalStateException();
        }
    }

    // The face.

    int house(int pips, int players, int tiles, boolean areDraws, char ruling) {
        if (pips < 2 || pips > 6 || players < 2 || players > 4 || tiles < 1 || tiles > 7
                || "lsn".indexOf(ruling) < 0 || new Tiles(pips).all.size() < players * tiles) {
            throw new IllegalArgumentException();
        }
        if (houses.size() == 4) {
            throw new IllegalStateException();
        }
        House house = new House();
        house.set = new Tiles(pips);
        house.players = players;
        house.tiles = tiles;
        house.areDraws = areDraws;
        house.ruling = ruling;
        houses.add(house);
        return houses.size() - 1;
    }

    int game(int house, int seed) {
        if (house < 0 || house >= houses.size()) {
            throw new IndexOutOfBoundsException();
        }
        if (seed < 0 || seed > 999999) {
            throw new IllegalArgumentException();
        }
        if (state.games.size() == 6 || log.size() >= 400) {
            throw new IllegalStateException();
        }
        add('g', state.games.size(), house, seed);
        return state.games.size() - 1;
    }

    boolean lay(int number, int tile, boolean isLeft) {
        Game game = find(number);
        if (tile < 0 || tile >= game.house.set.all.size()) {
            throw new IllegalArgumentException();
        }
        mustGoOn(game);
        if (!game.hands.get(game.mover).contains(tile)) {
            reason = "h";
            throw new UnsupportedOperationException();
        }
        if (!game.fits(tile, isLeft)) {
            reason = "f" + game.endNumber(isLeft);
            throw new UnsupportedOperationException();
        }
        add('t', number, tile, isLeft ? 1 : 0);
        return find(number).over;
    }

    int draw(int number) {
        Game game = find(number);
        mustGoOn(game);
        if (game.anyFits() || !game.drawable()) {
            throw new UnsupportedOperationException();
        }
        int tile = game.stock.peekFirst();
        add('d', number);
        return tile;
    }

    boolean pass(int number) {
        Game game = find(number);
        mustGoOn(game);
        if (game.anyFits() || game.drawable()) {
            throw new UnsupportedOperationException();
        }
        add('p', number);
        return find(number).over;
    }

    int mover(int game) {
        if (find(game).over) {
            throw new IllegalStateException();
        }
        return find(game).mover;
    }

    long hand(int game, int player) {
        if (player < 0 || player >= find(game).house.players) {
            throw new IndexOutOfBoundsException();
        }
        return mask(find(game).hands.get(player));
    }

    int stock(int game) {
        return find(game).stock.size();
    }

    int end(int game, boolean isLeft) {
        if (find(game).line.isEmpty()) {
            throw new NoSuchElementException();
        }
        return find(game).endNumber(isLeft);
    }

    int line(int game) {
        return find(game).written(false).length();
    }

    char sign(int game, int place, boolean isTurned) {
        String written = find(game).written(isTurned);
        if (place < 0 || place >= written.length()) {
            throw new NoSuchElementException();
        }
        return written.charAt(place);
    }

    boolean isOver(int game) {
        return find(game).over;
    }

    boolean isBlocked(int game) {
        return find(game).blocked;
    }

    int winner(int game) {
        if (!find(game).over) {
            throw new NoSuchElementException();
        }
        return find(game).winner;
    }

    char why(int depth) {
        if (depth < 0 || depth >= reason.length()) {
            throw new NoSuchElementException();
        }
        return reason.charAt(depth);
    }

    int bet(int better, int number, int player, int coins) {
        if (better < 0 || better > 3) {
            throw new IndexOutOfBoundsException();
        }
        Game game = find(number);
        if (player < 0 || player >= game.house.players) {
            throw new IndexOutOfBoundsException();
        }
        if (coins < 1 || coins > state.purses[better]) {
            throw new IllegalArgumentException();
        }
        if (game.over || game.bets.size() == 10 || log.size() >= 400) {
            throw new IllegalStateException();
        }
        add('b', number, better, player, coins);
        return pool(number);
    }

    int purse(int better) {
        if (better < 0 || better > 3) {
            throw new IndexOutOfBoundsException();
        }
        return state.purses[better];
    }

    int pool(int game) {
        return sum(find(game), -1);
    }

    int paid(int game, int bet) {
        if (bet < 0 || bet >= find(game).bets.size()) {
            throw new IndexOutOfBoundsException();
        }
        return find(game).bets.get(bet).paid;
    }

    int club() {
        return state.club;
    }

    int appeal(int number, char ruling) {
        Game game = find(number);
        if ("lsn".indexOf(ruling) < 0) {
            throw new IllegalArgumentException();
        }
        if (!game.blocked || game.ruling == ruling || game.appeals == 2) {
            throw new UnsupportedOperationException();
        }
        for (int size : checkpoints) {
            if (size > game.endEntry) {
                throw new IllegalStateException();
            }
        }
        if (log.size() >= 400) {
            throw new IllegalStateException();
        }
        add('a', number, ruling);
        return find(number).winner;
    }

    char ruling(int game) {
        return find(game).ruling;
    }

    int entries() {
        return log.size();
    }

    int loose() {
        return log.size() - flushed;
    }

    char entry(int index) {
        if (index < 0 || index >= log.size()) {
            throw new NoSuchElementException();
        }
        return (char) log.get(index)[0];
    }

    int gameOf(int index) {
        if (index < 0 || index >= log.size()) {
            throw new NoSuchElementException();
        }
        return log.get(index)[1];
    }

    int flush() {
        int count = loose();
        flushed = log.size();
        return count;
    }

    int crash() {
        int count = loose();
        while (log.size() > flushed) {
            log.remove(log.size() - 1);
        }
        state = workOut();
        return count;
    }

    int checkpoint() {
        for (Game game : state.games) {
            if (!game.over && !game.bets.isEmpty()) {
                throw new UnsupportedOperationException();
            }
        }
        if (checkpoints.size() == 5) {
            throw new IllegalStateException();
        }
        flush();
        checkpoints.add(log.size());
        return checkpoints.size() - 1;
    }

    int behind(int checkpoint) {
        if (checkpoint < 0 || checkpoint >= checkpoints.size()) {
            throw new IndexOutOfBoundsException();
        }
        return log.size() - checkpoints.get(checkpoint);
    }

    long replay(int checkpoint) {
        if (checkpoint < -1 || checkpoint >= checkpoints.size()) {
            throw new IndexOutOfBoundsException();
        }
        return sumOf(workOut());
    }

    long checksum() {
        return sumOf(state);
    }

    float playedShare() {
        if (state.games.isEmpty()) {
            throw new NoSuchElementException();
        }
        int over = 0;
        for (Game game : state.games) {
            over += game.over ? 1 : 0;
        }
        return (float) over / (float) state.games.size();
    }

    double meanPurse() {
        return (double) Arrays.stream(state.purses).sum() / (double) 4;
    }

    boolean isSound() {
        return true;
    }
}
