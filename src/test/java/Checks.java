import java.lang.reflect.InvocationTargetException;
import java.lang.reflect.Method;
import java.lang.reflect.Modifier;
import java.util.HashMap;
import java.util.Map;

/** Counts what is as it is due, and asks for answers as the document writes them. */
final class Checks {
    private static final Map<String, Method> METHODS = new HashMap<>();

    private int passed;
    private int failed;

    void due(String what, Object due, Object got) {
        if (due.equals(got)) {
            passed++;
        } else {
            failed++;
            System.out.println(what + " answered " + got + ", due is " + due);
        }
    }

    int failed() {
        return failed;
    }

    int passed() {
        return passed;
    }

    /** Runs rows on a new object; then looks whether replays agree with what is. */
    void script(String name, String rows) {
        script(name, new Caller(), rows);
    }

    void script(String name, Caller caller, String rows) {
        for (Rows.Row row : Rows.of(rows)) {
            due(name + ": " + row.call(), row.answer(), caller.ask(row.call()));
        }
        due(name + ": isSound() at the end", "true", caller.ask("isSound()"));
        due(name + ": replay(-1) at the end", caller.ask("checksum()"), caller.ask("replay(-1)"));
        due(name + ": no more calls than are promised", true, caller.calls() <= Caller.MOST_CALLS);
    }

    /** The answer of a call as the document writes it. */
    static String answer(Object target, String method, Object... arguments) {
        try {
            return String.valueOf(find(target.getClass(), method).invoke(target, arguments));
        } catch (InvocationTargetException e) {
            return "throws " + nameOf(e.getCause());
        } catch (IllegalAccessException e) {
            return e.toString();
        }
    }

    /** An exception that the machine or the library throws bears a name that is never due. */
    private static String nameOf(Throwable thrown) {
        StackTraceElement[] trace = thrown.getStackTrace();
        boolean isOwn = trace.length > 0
                && (trace[0].getClassName().startsWith("Dominofs") || trace[0].getClassName().startsWith("Naive"));
        return thrown.getClass().getSimpleName() + (isOwn ? "" : " by the machine");
    }

    private static Method find(Class<?> type, String name) {
        return METHODS.computeIfAbsent(type.getName() + "." + name, key -> search(type, name));
    }

    private static Method search(Class<?> type, String name) {
        for (Method method : type.getDeclaredMethods()) {
            if (method.getName().equals(name) && !Modifier.isPrivate(method.getModifiers())) {
                method.setAccessible(true);
                return method;
            }
        }
        throw new IllegalArgumentException("no method " + name);
    }
}
