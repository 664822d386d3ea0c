import java.util.ArrayList;
import java.util.List;
import java.util.Random;
import java.util.TreeMap;

/** Long runs of drawn calls, right and wrong ones, each answer compared with that of the document told once more. */
final class RandomTest {
    private static final int RUNS = 4000;
    private static final int CALLS = 512;
    /** How many calls more once nothing can be played any more. */
    private static final int AFTER_PLAY = 30;
    private static final int[] ODD = {Integer.MIN_VALUE, Integer.MAX_VALUE, -2, -1, 1000000, 999999, 400, 512, 28, 7};
    private static final char[] ODD_SIGNS = {'L', 'x', 'm', 0, 65535, 't'};

    /** What the runs must have met, so that they are worth something: a call and how its answer begins. */
    private static final String[] MUST_MEET = {
        "house throws IllegalArgumentException", "house throws IllegalStateException",
        "game throws IndexOutOfBoundsException", "game throws IllegalArgumentException",
        "game throws IllegalStateException", "lay true", "lay false", "lay throws IndexOutOfBoundsException",
        "lay throws IllegalArgumentException", "lay throws IllegalStateException",
        "lay throws UnsupportedOperationException", "draw answered", "draw throws IllegalStateException",
        "draw throws UnsupportedOperationException", "pass true", "pass false", "pass throws IllegalStateException",
        "pass throws UnsupportedOperationException", "mover throws IllegalStateException",
        "end throws NoSuchElementException", "sign throws NoSuchElementException", "isBlocked true",
        "winner answered", "winner -1", "winner throws NoSuchElementException", "why h", "why f", "why digit",
        "why throws NoSuchElementException", "bet answered", "bet throws IndexOutOfBoundsException",
        "bet throws IllegalArgumentException", "bet throws IllegalStateException", "purse below 0",
        "paid answered", "paid 0", "paid throws IndexOutOfBoundsException", "appeal answered", "appeal -1",
        "appeal throws IndexOutOfBoundsException", "appeal throws IllegalArgumentException",
        "appeal throws UnsupportedOperationException", "appeal throws IllegalStateException",
        "entry g", "entry t", "entry d", "entry p", "entry b", "entry a", "entry throws NoSuchElementException",
        "gameOf throws NoSuchElementException", "checkpoint answered", "checkpoint throws IllegalStateException",
        "checkpoint throws UnsupportedOperationException", "behind answered", "behind throws IndexOutOfBoundsException",
        "replay answered", "replay throws IndexOutOfBoundsException", "playedShare throws NoSuchElementException",
        "crash answered", "flush answered", "isSound true",
    };

    private final Checks checks;
    private final TreeMap<String, Integer> met = new TreeMap<>();
    private Random random;
    private Dominofs club;
    private Naive naive;
    private int calls;
    private String run;
    private boolean isAlike;

    private RandomTest(Checks checks) {
        this.checks = checks;
    }

    static void run(Checks checks) {
        RandomTest test = new RandomTest(checks);
        for (int number = 0; number < RUNS; number++) {
            test.runOne(number);
        }
        for (String key : MUST_MEET) {
            checks.due("random runs met '" + key + "'", true, test.met.containsKey(key));
        }
    }

    private void runOne(int number) {
        run = "random run " + number;
        random = new Random(number);
        club = new Dominofs();
        naive = new Naive();
        calls = 0;
        isAlike = true;
        int wildness = number % 4 * 8;
        int idle = 0;
        while (calls < CALLS && isAlike && idle < AFTER_PLAY) {
            step(wildness);
            idle += naive.state.games.size() == 6 && naive.state.games.stream().allMatch(game -> game.over) ? 1 : 0;
        }
        checks.due(run, true, isAlike);
    }

    private void step(int wildness) {
        int choice = random.nextInt(100);
        if (naive.state.games.isEmpty() && choice < 5) {
            ask(wildness);
        } else if (naive.houses.size() < 2 || choice < 1) {
            house(wildness);
        } else if (naive.state.games.isEmpty() || choice < 4) {
            call("game", number(naive.houses.size(), wildness), seed(wildness));
        } else if (choice < 33) {
            move(wildness);
        } else if (choice < 55) {
            bet(wildness);
        } else if (choice < 61) {
            call("appeal", likelyGame(wildness, true), ruling(wildness));
        } else if (choice < 65) {
            call(choice < 62 ? "flush" : random.nextInt(3) == 0 ? "crash" : "loose");
        } else if (choice < 67) {
            call(random.nextInt(3) == 0 ? "checkpoint" : "entries");
        } else {
            ask(wildness);
        }
    }

    private void house(int wildness) {
        if (random.nextInt(40) < wildness) {
            call("house", number(8, 20), number(6, 20), number(9, 20), random.nextBoolean(), ruling(20));
            return;
        }
        int pips = 2 + random.nextInt(random.nextInt(4) == 0 ? 5 : 2);
        int players = 2 + random.nextInt(3);
        int most = Math.min(7, (pips + 1) * (pips + 2) / 2 / players);
        call("house", pips, players, 1 + random.nextInt(most), random.nextInt(3) == 0, ruling(0));
    }

    private void move(int wildness) {
        int number = likelyGame(wildness, false);
        if (number < 0 || number >= naive.state.games.size() || random.nextInt(100) < wildness) {
            wrongMove(number);
            return;
        }
        Naive.Game game = naive.state.games.get(number);
        List<Object[]> lays = new ArrayList<>();
        for (int tile : game.hands.get(game.mover)) {
            for (int side = 0; side < 2; side++) {
                if (game.fits(tile, side == 0)) {
                    lays.add(new Object[] {number, tile, side == 0});
                }
            }
        }
        if (!lays.isEmpty()) {
            call("lay", lays.get(random.nextInt(lays.size())));
        } else {
            call(game.drawable() ? "draw" : "pass", number);
        }
    }

    private void wrongMove(int number) {
        int kind = random.nextInt(4);
        if (kind == 0) {
            call("draw", number);
        } else if (kind == 1) {
            call("pass", number);
        } else {
            call("lay", number, number(15, 10), random.nextBoolean());
            call("why", number(2, 10));
        }
    }

    private void bet(int wildness) {
        int better = number(4, wildness);
        int coins = random.nextInt(5) == 0 && better >= 0 && better < 4 ? naive.state.purses[better]
                : random.nextInt(20) == 0 ? number(200, 10) : 1 + random.nextInt(30);
        call("bet", better, likelyGame(wildness, false), number(4, wildness), coins);
    }

    private void ask(int wildness) {
        int game = number(naive.state.games.size(), wildness);
        switch (random.nextInt(26)) {
            case 0: call("mover", game); break;
            case 1: call("hand", game, number(4, wildness)); break;
            case 2: call("stock", game); break;
            case 3: call("end", game, random.nextBoolean()); break;
            case 4: call("line", game); break;
            case 5: call("sign", game, number(40, wildness), random.nextBoolean()); break;
            case 6: call("isOver", game); break;
            case 7: call("isBlocked", game); break;
            case 8: call("winner", game); break;
            case 9: call("why", number(2, wildness)); break;
            case 10: call("purse", number(4, wildness)); break;
            case 11: call("pool", game); break;
            case 12: call("paid", game, number(5, wildness)); break;
            case 13: call("club"); break;
            case 14: call("ruling", game); break;
            case 15: call("entry", number(naive.log.size() + 1, wildness)); break;
            case 16: call("gameOf", number(naive.log.size() + 1, wildness)); break;
            case 17: call("behind", number(naive.checkpoints.size() + 1, wildness)); break;
            case 18: call("replay", number(naive.checkpoints.size() + 2, wildness) - 1); break;
            case 19: call("playedShare"); break;
            case 20: call("meanPurse"); break;
            case 21: call("isSound"); break;
            case 22: call("loose"); break;
            case 23: call("paid", game, number(3, wildness)); break;
            default: call("checksum");
        }
    }

    private int likelyGame(int wildness, boolean isBlocked) {
        List<Integer> fit = new ArrayList<>();
        for (int game = 0; game < naive.state.games.size(); game++) {
            Naive.Game at = naive.state.games.get(game);
            if (isBlocked ? at.blocked : !at.over) {
                fit.add(game);
            }
        }
        if (fit.isEmpty() || random.nextInt(100) < 5 + wildness) {
            return number(naive.state.games.size(), wildness);
        }
        return fit.get(random.nextInt(Math.min(fit.size(), 2)));
    }

    private int number(int below, int wildness) {
        if (random.nextInt(120) < wildness) {
            return ODD[random.nextInt(ODD.length)];
        }
        return below > 0 ? random.nextInt(below) : 0;
    }

    private int seed(int wildness) {
        return random.nextInt(120) < wildness ? ODD[random.nextInt(ODD.length)] : random.nextInt(1000000);
    }

    private char ruling(int wildness) {
        return random.nextInt(120) < wildness ? ODD_SIGNS[random.nextInt(ODD_SIGNS.length)]
                : "lsn".charAt(random.nextInt(3));
    }

    private void call(String method, Object... arguments) {
        if (calls >= CALLS || !isAlike) {
            return;
        }
        calls++;
        String due = Checks.answer(naive, method, arguments);
        String got = Checks.answer(club, method, arguments);
        isAlike = due.equals(got);
        if (!isAlike) {
            checks.due(run + " call " + calls + ": " + method + java.util.Arrays.toString(arguments), due, got);
        }
        note(method, due);
    }

    private void note(String method, String answer) {
        String key = method + " " + answer;
        boolean isNumber = answer.matches("-?\\d.*") && !answer.equals("-1");
        if (method.equals("why") && isNumber) {
            key = "why digit";
        } else if (method.equals("purse") && answer.startsWith("-")) {
            key = "purse below 0";
        } else if (isNumber && !key.equals("paid 0")) {
            key = method + " answered";
        }
        met.merge(key, 1, Integer::sum);
    }

    /** Lists how often the runs met what, to see whether they are still worth something. */
    public static void main(String[] args) {
        Checks checks = new Checks();
        RandomTest test = new RandomTest(checks);
        for (int number = 0; number < RUNS; number++) {
            test.runOne(number);
        }
        test.met.forEach((key, count) -> System.out.println(count + " " + key));
        System.out.println(checks.passed() + " passed, " + checks.failed() + " failed");
    }
}
