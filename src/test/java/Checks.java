import java.lang.reflect.InvocationTargetException;
import java.lang.reflect.Method;
import java.util.ArrayList;
import java.util.List;

/** Counts what is as it is due, and runs calls that are written as the document's example writes them. */
final class Checks {
    private int passed;
    private int failed;

    void due(String what, Object due, Object got) {
        if (due.equals(got)) {
            passed++;
        } else {
            failed++;
            System.out.println(what + " answered " + got + ", due is " + due);
        }
    }

    int failed() {
        return failed;
    }

    int passed() {
        return passed;
    }

    /**
     * Runs "call(..) = answer" or "call(..) = throws Exception" rows, each with a ';' behind it, on a new object; then
     * looks whether replays agree with what is.
     */
    void script(String name, String rows) {
        script(name, new Dominofs(), rows);
    }

    void script(String name, Dominofs club, String rows) {
        for (String row : rows.split(";")) {
            String text = row.strip().replaceAll("\\s+", " ");
            if (text.endsWith(".")) {
                text = text.substring(0, text.length() - 1);
            }
            if (!text.isEmpty()) {
                row(name, club, text);
            }
        }
        due(name + ": isSound() at the end", true, club.isSound());
        due(name + ": replay(-1) at the end", club.checksum(), club.replay(-1));
    }

    private void row(String name, Dominofs club, String text) {
        int middle = text.indexOf(") = ");
        String call = text.substring(0, middle + 1);
        String answer = text.substring(middle + 4);
        String method = call.substring(0, call.indexOf('('));
        String inside = call.substring(call.indexOf('(') + 1, call.length() - 1).strip();
        due(name + ": " + call, answer, answer(club, method, arguments(inside)));
    }

    private static Object[] arguments(String inside) {
        List<Object> list = new ArrayList<>();
        if (!inside.isEmpty()) {
            for (String part : inside.split(", *")) {
                list.add(argument(part));
            }
        }
        return list.toArray();
    }

    private static Object argument(String part) {
        if (part.equals("true") || part.equals("false")) {
            return part.equals("true");
        }
        if (part.startsWith("'")) {
            return part.charAt(1);
        }
        return Integer.parseInt(part);
    }

    /** The answer of a call as the document writes it. */
    static String answer(Object target, String method, Object... arguments) {
        try {
            return String.valueOf(find(target.getClass(), method).invoke(target, arguments));
        } catch (InvocationTargetException e) {
            return "throws " + nameOf(e.getCause());
        } catch (IllegalAccessException e) {
            return e.toString();
        }
    }

    /** An exception that the machine or the library throws bears a name that is never due. */
    private static String nameOf(Throwable thrown) {
        StackTraceElement[] trace = thrown.getStackTrace();
        boolean isOwn = trace.length > 0
                && (trace[0].getClassName().startsWith("Dominofs") || trace[0].getClassName().startsWith("Naive"));
        return thrown.getClass().getSimpleName() + (isOwn ? "" : " by the machine");
    }

    static Method find(Class<?> type, String name) {
        for (Method method : type.getDeclaredMethods()) {
            if (method.getName().equals(name) && !java.lang.reflect.Modifier.isPrivate(method.getModifiers())) {
                method.setAccessible(true);
                return method;
            }
        }
        throw new IllegalArgumentException("no method " + name);
    }
}
