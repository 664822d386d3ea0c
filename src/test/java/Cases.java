import java.util.HashMap;
import java.util.Map;

/** Runs boundary cases; each bears the promise, or the section, and a piece of the sentence that it is about. */
final class Cases {
    private final Checks checks;
    private final Document document = new Document();
    /** What a club answers of itself behind a setup, and nothing else. */
    private final Map<String, String> untouched = new HashMap<>();

    Cases(Checks checks) {
        this.checks = checks;
    }

    Case promise(int number, String piece) {
        return new Case(Document.promise(number), piece);
    }

    Case terms(String piece) {
        return new Case(Document.TERMS, piece);
    }

    Case whatItIs(String piece) {
        return new Case(Document.WHAT_IT_IS, piece);
    }

    void tellUncited() {
        for (String sentence : document.uncited()) {
            checks.due("a case for «" + sentence + "»", "one", "none");
        }
    }

    final class Case {
        private final String name;

        private Case(String section, String piece) {
            name = section + ", «" + piece + "»";
            checks.due(name + " stands there", true, document.cite(section, piece));
        }

        void due(String what, Object due, Object got) {
            checks.due(name + ", " + what, due, got);
        }

        /** The rows hold, one behind the other, on a new club. */
        Case holds(String what, String rows) {
            checks.script(name + ", " + what, rows);
            return this;
        }

        /** Each of the rows holds on a club of its own, behind the setup, and changes nothing but why. */
        Case changesNothing(String what, String setup, String rows) {
            for (Rows.Row row : Rows.of(rows)) {
                compare(name + ", " + what, setup, row);
            }
            return this;
        }

        private void compare(String what, String setup, Rows.Row row) {
            boolean tellsWhy = !isTileRefused(row);
            Caller caller = new Caller();
            run(caller, setup);
            int calls = Caller.MOST_CALLS - 1 - caller.calls();
            String due = untouched.computeIfAbsent(setup + tellsWhy, key -> untouched(what, setup, calls, tellsWhy));
            checks.due(what + ": " + row.call(), row.answer(), caller.ask(row.call()));
            checks.due(what + ": " + row.call() + " changes nothing", due, Snapshot.of(caller, calls, tellsWhy));
        }
    }

    private static boolean isTileRefused(Rows.Row row) {
        return row.call().startsWith("lay(") && row.answer().equals("throws UnsupportedOperationException");
    }

    private static void run(Caller caller, String rows) {
        for (Rows.Row row : Rows.of(rows)) {
            caller.ask(row.call());
        }
    }

    private String untouched(String what, String setup, int calls, boolean tellsWhy) {
        Caller caller = new Caller();
        for (Rows.Row row : Rows.of(setup)) {
            checks.due(what + ", before it: " + row.call(), row.answer(), caller.ask(row.call()));
        }
        return Snapshot.of(caller, calls, tellsWhy);
    }
}
