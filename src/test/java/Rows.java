import java.util.ArrayList;
import java.util.List;

/**
 * Calls written as the document's example writes them: "call(..) = answer" or "call(..) = throws Exception", each with
 * a ';' behind it.
 */
final class Rows {
    record Row(String call, String answer) {
    }

    private Rows() {
    }

    static List<Row> of(String text) {
        List<Row> rows = new ArrayList<>();
        for (String part : text.split(";")) {
            String row = part.strip().replaceAll("\\s+", " ");
            if (row.endsWith(".")) {
                row = row.substring(0, row.length() - 1);
            }
            if (!row.isEmpty()) {
                int middle = row.indexOf(") = ");
                rows.add(new Row(row.substring(0, middle + 1), row.substring(middle + 4)));
            }
        }
        return rows;
    }

    /** What the target answers to a call that is written so. */
    static String ask(Object target, String call) {
        String method = call.substring(0, call.indexOf('('));
        String inside = call.substring(call.indexOf('(') + 1, call.length() - 1).strip();
        return Checks.answer(target, method, arguments(inside));
    }

    private static Object[] arguments(String inside) {
        List<Object> list = new ArrayList<>();
        if (!inside.isEmpty()) {
            for (String part : inside.split(", *")) {
                list.add(argument(part));
            }
        }
        return list.toArray();
    }

    private static Object argument(String part) {
        if (part.equals("true") || part.equals("false")) {
            return part.equals("true");
        }
        if (part.startsWith("'")) {
            return part.charAt(1);
        }
        if (part.startsWith("(char)")) {
            return (char) Integer.parseInt(part.substring(6).strip());
        }
        return Integer.parseInt(part);
    }
}
