/** A new club that is called by rows; it counts the calls, as the document promises nothing behind the last one. */
final class Caller {
    static final int MOST_CALLS = 512;

    final Dominofs club = new Dominofs();
    private int calls;

    String ask(String call) {
        calls++;
        return Rows.ask(club, call);
    }

    int calls() {
        return calls;
    }
}
