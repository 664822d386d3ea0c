/** What a club answers of itself, as far as so many calls go; the answers that tell the most come first. */
final class Snapshot {
    private static final int MOST_GAMES = 6;
    private static final int ENTRIES_TOLD = 12;
    private static final int SIGNS_TOLD = 40;

    private final Caller caller;
    private final StringBuilder text = new StringBuilder();
    private int left;

    private Snapshot(Caller caller, int calls) {
        this.caller = caller;
        left = calls;
    }

    static String of(Caller caller, int calls, boolean tellsWhy) {
        Snapshot snapshot = new Snapshot(caller, calls);
        snapshot.takeFigures();
        if (tellsWhy) {
            snapshot.ask("why(0)");
            snapshot.ask("why(1)");
        }
        snapshot.takeCheckpoints();
        snapshot.ask("house(2, 2, 1, true, 'n')");
        snapshot.takeGames();
        snapshot.takeEntries();
        snapshot.takeSigns();
        snapshot.goOn();
        return snapshot.text.toString();
    }

    /** Answers "throws" for a call that comes too late. */
    private String ask(String call) {
        if (left <= 0) {
            return "throws";
        }
        left--;
        String answer = caller.ask(call);
        text.append(call).append(" = ").append(answer).append("; ");
        return answer;
    }

    private boolean tells(String call) {
        return !ask(call).startsWith("throws");
    }

    private void takeFigures() {
        ask("entries()");
        ask("loose()");
        ask("checksum()");
        ask("replay(-1)");
        ask("isSound()");
        ask("club()");
        for (int better = 0; better < 4; better++) {
            ask("purse(" + better + ")");
        }
        ask("meanPurse()");
        ask("playedShare()");
    }

    private void takeCheckpoints() {
        for (int checkpoint = 0; checkpoint < 5 && tells("behind(" + checkpoint + ")"); checkpoint++) {
            ask("replay(" + checkpoint + ")");
        }
    }

    private void takeGames() {
        for (int game = MOST_GAMES - 1; game >= 0; game--) {
            if (!tells("pool(" + game + ")")) {
                continue;
            }
            for (String call : "isOver isBlocked winner ruling mover stock line".split(" ")) {
                ask(call + "(" + game + ")");
            }
            ask("end(" + game + ", true)");
            ask("end(" + game + ", false)");
            for (int player = 0; player < 4 && tells("hand(" + game + ", " + player + ")"); player++) {
                continue;
            }
            for (int bet = 0; bet < 10 && tells("paid(" + game + ", " + bet + ")"); bet++) {
                continue;
            }
        }
    }

    private void takeEntries() {
        int count = caller.club.entries();
        for (int index = count; index >= 0 && index > count - ENTRIES_TOLD; index--) {
            ask("entry(" + index + ")");
            ask("gameOf(" + index + ")");
        }
    }

    private void takeSigns() {
        for (int game = MOST_GAMES - 1; game >= 0; game--) {
            for (int place = 1; place < SIGNS_TOLD && tells("sign(" + game + ", " + place + ", false)"); place += 2) {
                continue;
            }
        }
    }

    /** What comes of calls that change something. */
    private void goOn() {
        ask("checkpoint()");
        ask("game(0, 7)");
        ask("crash()");
        ask("checksum()");
    }
}
