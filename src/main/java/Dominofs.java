import java.util.ArrayList;
import java.util.NoSuchElementException;

/**
 * An archive of a domino club. What happened is a list of entries; what is follows from the entries alone: each call
 * that changes something adds an entry and does it, and crashes and replays do the entries again.
 */
public final class Dominofs {
    private static final int LEAST_PIPS = 2;
    private static final int MOST_PIPS = 6;
    private static final int LEAST_PLAYERS = 2;
    private static final int MOST_PLAYERS = 4;
    private static final int MOST_TILES_A_PLAYER = 7;
    private static final int MOST_TILES = 28;
    private static final int MOST_HOUSES = 4;
    private static final int MOST_GAMES = 6;
    private static final int MOST_SEED = 999999;
    private static final int MOST_BETS = 10;
    private static final int MOST_APPEALS = 2;
    private static final int MOST_ENTRIES = 400;
    private static final int MOST_CHECKPOINTS = 5;
    private static final int BETTERS = 4;
    private static final int FIRST_PURSE = 100;
    private static final int ALL_COINS = 400;
    private static final int SIGNS_A_TILE = 5;
    private static final int NOBODY = -1;
    private static final int NOT_OVER = -2;
    private static final int NOTHING = -1;
    private static final long HAND_MODULUS = 1000003;

    private final ArrayList<House> houses;
    private final ArrayList<Entry> journal;
    private int flushed;
    private final ArrayList<Table> checkpoints;
    /** What is. */
    private final Table now;
    /** Where replays are done, so that they change nothing and make nothing. */
    private final Table again;
    private final House noHouse;
    private boolean isRefused;
    private boolean isUnfit;
    private int unfitEnd;

    public Dominofs() {
        houses = new ArrayList<House>();
        journal = new ArrayList<Entry>();
        checkpoints = new ArrayList<Table>();
        noHouse = new House(LEAST_PIPS, LEAST_PLAYERS, 1, false, 'n');
        now = new Table(noHouse);
        again = new Table(noHouse);
    }

    // Houses and games.

    public int house(int pips, int players, int tiles, boolean areDraws, char ruling)
            throws IllegalArgumentException, IllegalStateException {
        if (pips < LEAST_PIPS || pips > MOST_PIPS || players < LEAST_PLAYERS || players > MOST_PLAYERS) {
            throw new IllegalArgumentException("pips or players out of range");
        }
        if (tiles < 1 || tiles > MOST_TILES_A_PLAYER || !isRuling(ruling)) {
            throw new IllegalArgumentException("tiles out of range, or no such ruling");
        }
        if (players * tiles > House.sizeOfSet(pips)) {
            throw new IllegalArgumentException("the set has not so many tiles");
        }
        if (houses.size() >= MOST_HOUSES) {
            throw new IllegalStateException("too many houses");
        }
        houses.add(new House(pips, players, tiles, areDraws, ruling));
        return houses.size() - 1;
    }

    public int game(int house, int seed)
            throws IndexOutOfBoundsException, IllegalArgumentException, IllegalStateException {
        if (house < 0 || house >= houses.size()) {
            throw new IndexOutOfBoundsException("no such house");
        }
        if (seed < 0 || seed > MOST_SEED) {
            throw new IllegalArgumentException("seed out of range");
        }
        if (now.gameCount >= MOST_GAMES || isJournalFull()) {
            throw new IllegalStateException("too many games or entries");
        }
        int number = now.gameCount;
        enter(new GameBegun(number, houses.get(house), seed));
        return number;
    }

    public boolean lay(int game, int tile, boolean isLeft)
            throws IndexOutOfBoundsException, IllegalArgumentException, IllegalStateException,
            UnsupportedOperationException {
        Game at = findGame(game);
        if (tile < 0 || tile >= at.house.size) {
            throw new IllegalArgumentException("no such tile in the set");
        }
        refuseIfOverOrFull(at);
        if (!at.isInHand(tile)) {
            noteRefusal(false, 0);
            throw new UnsupportedOperationException("not in the hand");
        }
        if (!at.isFitting(tile, isLeft)) {
            noteRefusal(true, at.numberAt(isLeft));
            throw new UnsupportedOperationException("does not fit");
        }
        enter(new TileLaid(game, tile, isLeft));
        return at.isDone();
    }

    public int draw(int game)
            throws IndexOutOfBoundsException, IllegalStateException, UnsupportedOperationException {
        Game at = findGame(game);
        refuseIfOverOrFull(at);
        if (at.canLay() || !at.canTake()) {
            throw new UnsupportedOperationException("a tile fits, or none can be drawn");
        }
        int tile = at.firstOfStock();
        enter(new TileDrawn(game));
        return tile;
    }

    public boolean pass(int game)
            throws IndexOutOfBoundsException, IllegalStateException, UnsupportedOperationException {
        Game at = findGame(game);
        refuseIfOverOrFull(at);
        if (at.canLay() || at.canTake()) {
            throw new UnsupportedOperationException("a tile fits, or one can be drawn");
        }
        enter(new TurnPassed(game));
        return at.isDone();
    }

    public int mover(int game) throws IndexOutOfBoundsException, IllegalStateException {
        Game at = findGame(game);
        if (at.isDone()) {
            throw new IllegalStateException("the game is over");
        }
        return at.mover;
    }

    public long hand(int game, int player) throws IndexOutOfBoundsException {
        Game at = findGame(game);
        if (!at.hasPlayer(player)) {
            throw new IndexOutOfBoundsException("no such player");
        }
        return at.handOf(player);
    }

    public int stock(int game) throws IndexOutOfBoundsException {
        Game at = findGame(game);
        return at.house.size - at.dealt;
    }

    public int end(int game, boolean isLeft) throws IndexOutOfBoundsException, NoSuchElementException {
        Game at = findGame(game);
        if (at.laid == 0) {
            throw new NoSuchElementException("no tile lies");
        }
        return at.numberAt(isLeft);
    }

    public int line(int game) throws IndexOutOfBoundsException {
        return findGame(game).laid * SIGNS_A_TILE;
    }

    public char sign(int game, int place, boolean isTurned)
            throws IndexOutOfBoundsException, NoSuchElementException {
        Game at = findGame(game);
        if (place < 0 || place >= at.laid * SIGNS_A_TILE) {
            throw new NoSuchElementException("no such sign");
        }
        return at.signAt(place, isTurned);
    }

    public boolean isOver(int game) throws IndexOutOfBoundsException {
        return findGame(game).isDone();
    }

    public boolean isBlocked(int game) throws IndexOutOfBoundsException {
        return findGame(game).isStuck;
    }

    public int winner(int game) throws IndexOutOfBoundsException, NoSuchElementException {
        Game at = findGame(game);
        if (!at.isDone()) {
            throw new NoSuchElementException("the game is not over");
        }
        return at.winner;
    }

    public char why(int depth) throws NoSuchElementException {
        if (isRefused && depth == 0) {
            return isUnfit ? 'f' : 'h';
        }
        if (isRefused && isUnfit && depth == 1) {
            return (char) ('0' + unfitEnd);
        }
        throw new NoSuchElementException("none was refused, or no cause so deep");
    }

    // Bets.

    public int bet(int better, int game, int player, int coins)
            throws IndexOutOfBoundsException, IllegalArgumentException, IllegalStateException {
        if (better < 0 || better >= BETTERS) {
            throw new IndexOutOfBoundsException("no such better");
        }
        Game at = findGame(game);
        if (!at.hasPlayer(player)) {
            throw new IndexOutOfBoundsException("no such player");
        }
        if (coins < 1 || coins > now.purseOf(better)) {
            throw new IllegalArgumentException("too few or too many coins");
        }
        refuseIfOverOrFull(at);
        if (at.bets.count >= MOST_BETS) {
            throw new IllegalStateException("too many bets");
        }
        enter(new CoinsBet(game, better, player, coins));
        return at.bets.coins;
    }

    public int purse(int better) throws IndexOutOfBoundsException {
        if (better < 0 || better >= BETTERS) {
            throw new IndexOutOfBoundsException("no such better");
        }
        return now.purseOf(better);
    }

    public int pool(int game) throws IndexOutOfBoundsException {
        return findGame(game).bets.coins;
    }

    public int paid(int game, int bet) throws IndexOutOfBoundsException {
        Game at = findGame(game);
        if (bet < 0 || bet >= at.bets.count) {
            throw new IndexOutOfBoundsException("no such bet");
        }
        return at.bets.paymentOf(bet);
    }

    public int club() {
        return now.clubCoins;
    }

    public int appeal(int game, char ruling)
            throws IndexOutOfBoundsException, IllegalArgumentException, UnsupportedOperationException,
            IllegalStateException {
        Game at = findGame(game);
        if (!isRuling(ruling)) {
            throw new IllegalArgumentException("no such ruling");
        }
        if (!at.isStuck || at.ruling == ruling || at.appeals >= MOST_APPEALS) {
            throw new UnsupportedOperationException("not blocked, in force already, or too many appeals");
        }
        if (isOverInCheckpoint(game) || isJournalFull()) {
            throw new IllegalStateException("a checkpoint since its end, or too many entries");
        }
        enter(new BlockAppealed(game, ruling));
        return at.winner;
    }

    public char ruling(int game) throws IndexOutOfBoundsException {
        return findGame(game).ruling;
    }

    // The journal.

    public int entries() {
        return journal.size();
    }

    public int loose() {
        return journal.size() - flushed;
    }

    public char entry(int index) throws NoSuchElementException {
        return findEntry(index).kind;
    }

    public int gameOf(int index) throws NoSuchElementException {
        return findEntry(index).game;
    }

    public int flush() {
        int count = journal.size() - flushed;
        flushed = journal.size();
        return count;
    }

    public int crash() {
        int count = journal.size() - flushed;
        for (int last = journal.size() - 1; last >= 0 && last >= flushed; last--) {
            journal.remove(last);
        }
        redoFrom(NOTHING, now);
        return count;
    }

    public int checkpoint() throws UnsupportedOperationException, IllegalStateException {
        if (now.hasOpenBets()) {
            throw new UnsupportedOperationException("bets on a game that is not over");
        }
        if (checkpoints.size() >= MOST_CHECKPOINTS) {
            throw new IllegalStateException("too many checkpoints");
        }
        flushed = journal.size();
        Table kept = new Table(noHouse);
        kept.become(now);
        checkpoints.add(kept);
        return checkpoints.size() - 1;
    }

    public int behind(int checkpoint) throws IndexOutOfBoundsException {
        if (checkpoint < 0 || checkpoint >= checkpoints.size()) {
            throw new IndexOutOfBoundsException("no such checkpoint");
        }
        return journal.size() - checkpoints.get(checkpoint).done;
    }

    public long replay(int checkpoint) throws IndexOutOfBoundsException {
        if (checkpoint != NOTHING && (checkpoint < 0 || checkpoint >= checkpoints.size())) {
            throw new IndexOutOfBoundsException("no such checkpoint");
        }
        redoFrom(checkpoint, again);
        return again.sum();
    }

    // Figures.

    public long checksum() {
        return now.sum();
    }

    public float playedShare() throws NoSuchElementException {
        if (now.gameCount == 0) {
            throw new NoSuchElementException("there are no games");
        }
        return (float) now.countDone() / (float) now.gameCount;
    }

    public double meanPurse() {
        return (double) now.coinsInPurses() / (double) BETTERS;
    }

    public boolean isSound() {
        for (int checkpoint = NOTHING; checkpoint < checkpoints.size(); checkpoint++) {
            redoFrom(checkpoint, again);
            if (!again.isLike(now)) {
                return false;
            }
        }
        return now.areTilesInPlace() && now.coinsInAll() == ALL_COINS;
    }

    // What the calls of the face share.

    private static boolean isRuling(char ruling) {
        return ruling == 'l' || ruling == 's' || ruling == 'n';
    }

    private Game findGame(int game) {
        Game at = now.gameAt(game);
        if (at == null) {
            throw new IndexOutOfBoundsException("no such game");
        }
        return at;
    }

    private Entry findEntry(int index) {
        if (index < 0 || index >= journal.size()) {
            throw new NoSuchElementException("no such entry");
        }
        return journal.get(index);
    }

    private boolean isJournalFull() {
        return journal.size() >= MOST_ENTRIES;
    }

    private void refuseIfOverOrFull(Game at) {
        if (at.isDone() || isJournalFull()) {
            throw new IllegalStateException("the game is over, or there are too many entries");
        }
    }

    private void noteRefusal(boolean isForEnd, int number) {
        isRefused = true;
        isUnfit = isForEnd;
        unfitEnd = number;
    }

    /** Adds an entry and does it, in the very way in which a replay does it. */
    private void enter(Entry entry) {
        journal.add(entry);
        now.perform(entry);
    }

    /** The last checkpoint tells it for all: what they keep is never lost, so a game is over in each later one too. */
    private boolean isOverInCheckpoint(int game) {
        int last = checkpoints.size() - 1;
        Game kept = last >= 0 ? checkpoints.get(last).gameAt(game) : null;
        return kept != null && kept.isDone();
    }

    private void redoFrom(int checkpoint, Table table) {
        if (checkpoint >= 0 && checkpoint < checkpoints.size()) {
            table.become(checkpoints.get(checkpoint));
        } else {
            table.clear();
        }
        for (int index = table.done; index >= 0 && index < journal.size(); index++) {
            table.perform(journal.get(index));
        }
    }

    /** A house, with what is asked about its set of tiles again and again. */
    private static final class House {
        final int pips;
        final int players;
        final int tiles;
        final boolean areDraws;
        final char ruling;
        final int size;
        private final int[] lows;
        private final int[] highs;
        /** For each number the tiles that bear it, as a sum of 2 to the power of each. */
        private final int[] bearers;

        House(int pips, int players, int tiles, boolean areDraws, char ruling) {
            this.pips = pips;
            this.players = players;
            this.tiles = tiles;
            this.areDraws = areDraws;
            this.ruling = ruling;
            size = sizeOfSet(pips);
            lows = new int[MOST_TILES];
            highs = new int[MOST_TILES];
            bearers = new int[MOST_PIPS + 1];
            int tile = 0;
            for (int low = 0; low <= pips && low <= MOST_PIPS; low++) {
                for (int high = low; high <= pips && high <= MOST_PIPS && tile < MOST_TILES; high++) {
                    lows[tile] = low;
                    highs[tile] = high;
                    bearers[low] |= 1 << tile;
                    bearers[high] |= 1 << tile;
                    tile++;
                }
            }
        }

        static int sizeOfSet(int pips) {
            return (pips + 1) * (pips + 2) / 2;
        }

        int lowOf(int tile) {
            return tile >= 0 && tile < MOST_TILES ? lows[tile] : 0;
        }

        int highOf(int tile) {
            return tile >= 0 && tile < MOST_TILES ? highs[tile] : 0;
        }

        int bearersOf(int number) {
            return number >= 0 && number <= MOST_PIPS ? bearers[number] : 0;
        }

        int pipsOn(int tilesInHand) {
            int sum = 0;
            for (int tile = 0; tile < size && tile < MOST_TILES; tile++) {
                if ((tilesInHand & 1 << tile) != 0) {
                    sum += lows[tile] + highs[tile];
                }
            }
            return sum;
        }

        int tileWith(int one, int other) {
            int low = Math.min(one, other);
            int high = Math.max(one, other);
            return low * (pips + 1) - low * (low - 1) / 2 + high - low;
        }
    }

    /** The bets on one game. */
    private static final class Bets {
        int count;
        int coins;
        private final int[] betters;
        private final int[] players;
        private final int[] stakes;
        private final int[] payments;

        Bets() {
            betters = new int[MOST_BETS];
            players = new int[MOST_BETS];
            stakes = new int[MOST_BETS];
            payments = new int[MOST_BETS];
        }

        void clear() {
            count = 0;
            coins = 0;
        }

        void become(Bets other) {
            count = other.count;
            coins = other.coins;
            System.arraycopy(other.betters, 0, betters, 0, MOST_BETS);
            System.arraycopy(other.players, 0, players, 0, MOST_BETS);
            System.arraycopy(other.stakes, 0, stakes, 0, MOST_BETS);
            System.arraycopy(other.payments, 0, payments, 0, MOST_BETS);
        }

        boolean isLike(Bets other) {
            boolean isAlike = count == other.count && coins == other.coins;
            for (int bet = 0; isAlike && bet < count && bet < MOST_BETS; bet++) {
                isAlike = betters[bet] == other.betters[bet] && players[bet] == other.players[bet]
                        && stakes[bet] == other.stakes[bet] && payments[bet] == other.payments[bet];
            }
            return isAlike;
        }

        void add(int better, int player, int stake) {
            if (count >= 0 && count < MOST_BETS) {
                betters[count] = better;
                players[count] = player;
                stakes[count] = stake;
                payments[count] = 0;
                count++;
                coins += stake;
            }
        }

        int betterOf(int bet) {
            return bet >= 0 && bet < MOST_BETS ? betters[bet] : NOBODY;
        }

        int paymentOf(int bet) {
            return bet >= 0 && bet < MOST_BETS ? payments[bet] : 0;
        }

        /**
         * Sets what each bet is paid; answers what is left. By long numbers: appeals let purses owe, so that pools can
         * grow far beyond 400.
         */
        int share(int winner) {
            int onWinner = coinsOn(winner);
            int left = coins;
            for (int bet = 0; bet < count && bet < MOST_BETS; bet++) {
                payments[bet] = 0;
                if (players[bet] == winner && onWinner > 0) {
                    payments[bet] = (int) ((long) coins * stakes[bet] / onWinner);
                }
                left -= payments[bet];
            }
            return left;
        }

        int coinsLeft() {
            int left = coins;
            for (int bet = 0; bet < count && bet < MOST_BETS; bet++) {
                left -= payments[bet];
            }
            return left;
        }

        private int coinsOn(int player) {
            int sum = 0;
            for (int bet = 0; bet < count && bet < MOST_BETS; bet++) {
                sum += players[bet] == player ? stakes[bet] : 0;
            }
            return sum;
        }
    }

    /** A game, as far as it was played. */
    private static final class Game {
        House house;
        /** The shuffled tiles; those from the place dealt on are the stock. */
        private final int[] order;
        int dealt;
        private final int[] hands;
        /** The numbers along the line; as neighbours are alike where they touch, one more than tiles lie. */
        private final int[] chain;
        int laid;
        int mover;
        private int lastLayer;
        private int passes;
        boolean isStuck;
        int winner;
        char ruling;
        int appeals;
        final Bets bets;

        Game(House noHouse) {
            house = noHouse;
            order = new int[MOST_TILES];
            hands = new int[MOST_PLAYERS];
            chain = new int[MOST_TILES + 1];
            bets = new Bets();
        }

        void begin(House at, int seed) {
            house = at;
            shuffle(seed);
            deal();
            laid = 0;
            mover = 0;
            lastLayer = NOBODY;
            passes = 0;
            isStuck = false;
            winner = NOT_OVER;
            ruling = at.ruling;
            appeals = 0;
            bets.clear();
        }

        private void shuffle(int seed) {
            for (int tile = 0; tile < house.size && tile < MOST_TILES; tile++) {
                order[tile] = tile;
            }
            long z = seed;
            for (int place = Math.min(house.size, MOST_TILES) - 1; place >= 1; place--) {
                z = (z * 1103515245L + 12345L) % 2147483648L;
                int other = (int) (z / 65536L % (place + 1));
                if (other >= 0 && other <= place) {
                    int tile = order[place];
                    order[place] = order[other];
                    order[other] = tile;
                }
            }
        }

        private void deal() {
            dealt = 0;
            for (int player = 0; player < house.players && player < MOST_PLAYERS; player++) {
                hands[player] = 0;
                for (int count = 0; count < house.tiles; count++) {
                    hands[player] |= 1 << firstOfStock();
                    dealt++;
                }
            }
        }

        void become(Game other) {
            house = other.house;
            System.arraycopy(other.order, 0, order, 0, MOST_TILES);
            dealt = other.dealt;
            System.arraycopy(other.hands, 0, hands, 0, MOST_PLAYERS);
            System.arraycopy(other.chain, 0, chain, 0, MOST_TILES + 1);
            laid = other.laid;
            mover = other.mover;
            lastLayer = other.lastLayer;
            passes = other.passes;
            isStuck = other.isStuck;
            winner = other.winner;
            ruling = other.ruling;
            appeals = other.appeals;
            bets.become(other.bets);
        }

        boolean isLike(Game other) {
            return house == other.house && dealt == other.dealt && laid == other.laid && mover == other.mover
                    && lastLayer == other.lastLayer && passes == other.passes && isStuck == other.isStuck
                    && winner == other.winner && ruling == other.ruling && appeals == other.appeals
                    && areTilesLike(other) && bets.isLike(other.bets);
        }

        private boolean areTilesLike(Game other) {
            boolean isAlike = true;
            for (int place = dealt; isAlike && place >= 0 && place < house.size && place < MOST_TILES; place++) {
                isAlike = order[place] == other.order[place];
            }
            for (int player = 0; isAlike && player < house.players && player < MOST_PLAYERS; player++) {
                isAlike = hands[player] == other.hands[player];
            }
            for (int index = 0; isAlike && laid > 0 && index <= laid && index <= MOST_TILES; index++) {
                isAlike = chain[index] == other.chain[index];
            }
            return isAlike;
        }

        boolean hasPlayer(int player) {
            return player >= 0 && player < house.players;
        }

        boolean isDone() {
            return winner != NOT_OVER;
        }

        int handOf(int player) {
            return player >= 0 && player < MOST_PLAYERS ? hands[player] : 0;
        }

        boolean isInHand(int tile) {
            return (handOf(mover) & 1 << tile) != 0;
        }

        int numberAt(boolean isLeft) {
            return chainAt(isLeft ? 0 : laid);
        }

        private int chainAt(int index) {
            return index >= 0 && index <= MOST_TILES ? chain[index] : 0;
        }

        boolean isFitting(int tile, boolean isLeft) {
            return laid == 0 || (house.bearersOf(numberAt(isLeft)) & 1 << tile) != 0;
        }

        boolean canLay() {
            int fitting = house.bearersOf(numberAt(true)) | house.bearersOf(numberAt(false));
            return laid == 0 || (handOf(mover) & fitting) != 0;
        }

        boolean canTake() {
            return house.areDraws && dealt < house.size;
        }

        int firstOfStock() {
            return dealt >= 0 && dealt < MOST_TILES ? order[dealt] : 0;
        }

        char signAt(int place, boolean isTurned) {
            int index = place / SIGNS_A_TILE;
            switch (place % SIGNS_A_TILE) {
                case 0:
                    return '[';
                case 1:
                    return digitAt(index, isTurned);
                case 2:
                    return '|';
                case 3:
                    return digitAt(index + 1, isTurned);
                default:
                    return ']';
            }
        }

        private char digitAt(int index, boolean isTurned) {
            return (char) ('0' + chainAt(isTurned ? laid - index : index));
        }

        void place(int tile, boolean isLeft) {
            addToChain(house.lowOf(tile), house.highOf(tile), isLeft);
            passes = 0;
            if (mover >= 0 && mover < MOST_PLAYERS) {
                lastLayer = mover;
                hands[mover] &= ~(1 << tile);
                if (hands[mover] == 0) {
                    winner = mover;
                }
            }
            moveOn();
        }

        private void addToChain(int low, int high, boolean isLeft) {
            if (laid < 0 || laid >= MOST_TILES) {
                return;
            }
            if (laid == 0) {
                chain[0] = low;
                chain[1] = high;
            } else if (isLeft) {
                int joined = chain[0];
                System.arraycopy(chain, 0, chain, 1, laid + 1);
                chain[0] = low + high - joined;
            } else {
                chain[laid + 1] = low + high - chain[laid];
            }
            laid++;
        }

        void take() {
            if (mover >= 0 && mover < MOST_PLAYERS && dealt < house.size) {
                hands[mover] |= 1 << firstOfStock();
                dealt++;
            }
        }

        void skip() {
            passes++;
            if (passes >= house.players) {
                isStuck = true;
                winner = ruledWinner();
            }
            moveOn();
        }

        private void moveOn() {
            mover = mover + 1 < house.players ? mover + 1 : 0;
        }

        void judge(char other) {
            ruling = other;
            appeals++;
            winner = ruledWinner();
        }

        private int ruledWinner() {
            if (ruling == 's') {
                return lastLayer;
            }
            if (ruling == 'n') {
                return NOBODY;
            }
            int best = 0;
            int fewest = house.pipsOn(hands[0]);
            for (int player = 1; player < house.players && player < MOST_PLAYERS; player++) {
                int pips = house.pipsOn(hands[player]);
                if (pips < fewest) {
                    best = player;
                    fewest = pips;
                } else if (pips == fewest) {
                    best = NOBODY;
                }
            }
            return best;
        }

        long addTo(long sum) {
            long result = 31 * sum + laid;
            for (int player = 0; player < house.players; player++) {
                result = 31 * result + handOf(player) % HAND_MODULUS;
            }
            return 31 * result + winner;
        }

        boolean areTilesInPlace() {
            int seen = 0;
            int count = laid;
            for (int player = 0; player < house.players; player++) {
                seen |= handOf(player);
                count += Integer.bitCount(handOf(player));
            }
            for (int place = dealt; place >= 0 && place < house.size && place < MOST_TILES; place++) {
                seen |= 1 << order[place];
                count++;
            }
            for (int index = 0; index < laid; index++) {
                seen |= 1 << house.tileWith(chainAt(index), chainAt(index + 1));
            }
            return count == house.size && seen == (1 << house.size) - 1;
        }
    }

    /** All games, purses and the club, as so many entries made them. */
    private static final class Table {
        int done;
        int gameCount;
        private final Game[] games;
        private final int[] purses;
        int clubCoins;

        Table(House noHouse) {
            games = new Game[MOST_GAMES];
            for (int game = 0; game < MOST_GAMES; game++) {
                games[game] = new Game(noHouse);
            }
            purses = new int[BETTERS];
            for (int better = 0; better < BETTERS; better++) {
                purses[better] = FIRST_PURSE;
            }
        }

        void clear() {
            done = 0;
            gameCount = 0;
            for (int better = 0; better < BETTERS; better++) {
                purses[better] = FIRST_PURSE;
            }
            clubCoins = 0;
        }

        void become(Table other) {
            done = other.done;
            gameCount = other.gameCount;
            for (int game = 0; game < gameCount && game < MOST_GAMES; game++) {
                games[game].become(other.games[game]);
            }
            System.arraycopy(other.purses, 0, purses, 0, BETTERS);
            clubCoins = other.clubCoins;
        }

        boolean isLike(Table other) {
            boolean isAlike = done == other.done && gameCount == other.gameCount && clubCoins == other.clubCoins;
            for (int game = 0; isAlike && game < gameCount && game < MOST_GAMES; game++) {
                isAlike = games[game].isLike(other.games[game]);
            }
            for (int better = 0; isAlike && better < BETTERS; better++) {
                isAlike = purses[better] == other.purses[better];
            }
            return isAlike;
        }

        Game gameAt(int game) {
            return game >= 0 && game < gameCount && game < MOST_GAMES ? games[game] : null;
        }

        int purseOf(int better) {
            return better >= 0 && better < BETTERS ? purses[better] : 0;
        }

        private void addToPurse(int better, int coins) {
            if (better >= 0 && better < BETTERS) {
                purses[better] += coins;
            }
        }

        /** Pays whenever the game is over then: behind its end come only appeals, and these took back what was paid. */
        void perform(Entry entry) {
            done++;
            entry.doOn(this);
            Game at = gameAt(entry.game);
            if (at != null && at.isDone()) {
                pay(at);
            }
        }

        /** The next slot, counted from now on as a game; null if all are games. */
        Game openGame() {
            if (gameCount < 0 || gameCount >= MOST_GAMES) {
                return null;
            }
            gameCount++;
            return games[gameCount - 1];
        }

        void putIntoPool(Game at, int better, int player, int coins) {
            addToPurse(better, -coins);
            at.bets.add(better, player, coins);
        }

        private void pay(Game at) {
            clubCoins += at.bets.share(at.winner);
            movePayments(at, 1);
        }

        void takeBack(Game at) {
            clubCoins -= at.bets.coinsLeft();
            movePayments(at, -1);
        }

        private void movePayments(Game at, int times) {
            for (int bet = 0; bet < at.bets.count; bet++) {
                addToPurse(at.bets.betterOf(bet), times * at.bets.paymentOf(bet));
            }
        }

        boolean hasOpenBets() {
            return openCoins() > 0;
        }

        private int openCoins() {
            int sum = 0;
            for (int game = 0; game < gameCount && game < MOST_GAMES; game++) {
                sum += games[game].isDone() ? 0 : games[game].bets.coins;
            }
            return sum;
        }

        int coinsInPurses() {
            int sum = 0;
            for (int better = 0; better < BETTERS; better++) {
                sum += purses[better];
            }
            return sum;
        }

        int coinsInAll() {
            return coinsInPurses() + clubCoins + openCoins();
        }

        int countDone() {
            int count = 0;
            for (int game = 0; game < gameCount && game < MOST_GAMES; game++) {
                count += games[game].isDone() ? 1 : 0;
            }
            return count;
        }

        boolean areTilesInPlace() {
            boolean isSo = true;
            for (int game = 0; isSo && game < gameCount && game < MOST_GAMES; game++) {
                isSo = games[game].areTilesInPlace();
            }
            return isSo;
        }

        long sum() {
            long sum = 7;
            for (int game = 0; game < gameCount && game < MOST_GAMES; game++) {
                sum = games[game].addTo(sum);
            }
            for (int better = 0; better < BETTERS; better++) {
                sum = 31 * sum + purses[better];
            }
            return 31 * sum + clubCoins;
        }
    }

    /** An entry of the journal: it knows how to be done, at first and in each replay. */
    private abstract static class Entry {
        final char kind;
        final int game;

        Entry(char kind, int game) {
            this.kind = kind;
            this.game = game;
        }

        abstract void doOn(Table table);
    }

    private static final class GameBegun extends Entry {
        private final House house;
        private final int seed;

        GameBegun(int game, House house, int seed) {
            super('g', game);
            this.house = house;
            this.seed = seed;
        }

        void doOn(Table table) {
            Game at = table.openGame();
            if (at != null) {
                at.begin(house, seed);
            }
        }
    }

    private static final class TileLaid extends Entry {
        private final int tile;
        private final boolean isLeft;

        TileLaid(int game, int tile, boolean isLeft) {
            super('t', game);
            this.tile = tile;
            this.isLeft = isLeft;
        }

        void doOn(Table table) {
            Game at = table.gameAt(game);
            if (at != null) {
                at.place(tile, isLeft);
            }
        }
    }

    private static final class TileDrawn extends Entry {
        TileDrawn(int game) {
            super('d', game);
        }

        void doOn(Table table) {
            Game at = table.gameAt(game);
            if (at != null) {
                at.take();
            }
        }
    }

    private static final class TurnPassed extends Entry {
        TurnPassed(int game) {
            super('p', game);
        }

        void doOn(Table table) {
            Game at = table.gameAt(game);
            if (at != null) {
                at.skip();
            }
        }
    }

    private static final class CoinsBet extends Entry {
        private final int better;
        private final int player;
        private final int coins;

        CoinsBet(int game, int better, int player, int coins) {
            super('b', game);
            this.better = better;
            this.player = player;
            this.coins = coins;
        }

        void doOn(Table table) {
            Game at = table.gameAt(game);
            if (at != null) {
                table.putIntoPool(at, better, player, coins);
            }
        }
    }

    private static final class BlockAppealed extends Entry {
        private final char ruling;

        BlockAppealed(int game, char ruling) {
            super('a', game);
            this.ruling = ruling;
        }

        void doOn(Table table) {
            Game at = table.gameAt(game);
            if (at != null) {
                table.takeBack(at);
                at.judge(ruling);
            }
        }
    }
}
