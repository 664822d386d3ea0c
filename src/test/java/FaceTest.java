import java.io.IOException;
import java.lang.reflect.Constructor;
import java.lang.reflect.Field;
import java.lang.reflect.Method;
import java.lang.reflect.Modifier;
import java.nio.file.Files;
import java.nio.file.Path;
import java.util.ArrayList;
import java.util.List;
import java.util.TreeSet;

/** The class has the document's face, just so, and nothing else that another class could use. */
final class FaceTest {
    private static final Path SOURCE = Path.of("src/main/java/Dominofs.java");
    private static final String CONSTRUCTOR = "public Dominofs();";

    /** The members as the document writes them, without the constructor. */
    private static final List<String> FACE = members();

    private FaceTest() {
    }

    static void run(Checks checks) {
        checks.due("the class's modifiers", Modifier.PUBLIC | Modifier.FINAL, Dominofs.class.getModifiers());
        checks.due("how many methods", 35, FACE.size());
        checks.due("the methods", due(), got());
        Constructor<?>[] constructors = Dominofs.class.getDeclaredConstructors();
        checks.due("the constructors", 1, constructors.length);
        checks.due("the constructor", "public Dominofs()", constructors[0].toString());
        for (Field field : Dominofs.class.getDeclaredFields()) {
            checks.due("private " + field, true, Modifier.isPrivate(field.getModifiers()));
        }
        for (Class<?> inside : Dominofs.class.getDeclaredClasses()) {
            checks.due("static " + inside, true, Modifier.isStatic(inside.getModifiers()));
            checks.due("not public " + inside, 0, inside.getModifiers() & (Modifier.PUBLIC | Modifier.PROTECTED));
            for (Method method : inside.getDeclaredMethods()) {
                checks.due("no name of the face " + method, false, names().contains(method.getName()));
            }
        }
        asWritten(checks);
    }

    private static List<String> members() {
        List<String> rows = new ArrayList<>();
        for (String line : Document.block("## The public face")) {
            String row = line.strip();
            if (row.startsWith("public ") && row.endsWith(";") && !row.equals(CONSTRUCTOR)) {
                rows.add(row);
            }
        }
        return rows;
    }

    /** The names of the document's methods. */
    static List<String> names() {
        return FACE.stream().map(row -> row.replaceAll("\\(.*", "").replaceAll(".* ", "")).toList();
    }

    /** Each member stands in the source with the very names and exceptions, and nothing else is public. */
    private static void asWritten(Checks checks) {
        String source = source();
        for (String row : FACE) {
            checks.due("as it is written: " + row, true, source.contains(" " + row.replace(";", " {")));
        }
        checks.due("as it is written: " + CONSTRUCTOR, true, source.contains(CONSTRUCTOR.replace(";", " {")));
        checks.due("how often 'public' stands there", FACE.size() + 2, source.split("\\bpublic\\b").length - 1);
        checks.due("'protected' stands there", false, source.contains(" protected "));
    }

    private static String source() {
        try {
            return Files.readString(SOURCE).replaceAll("\\s+", " ");
        } catch (IOException e) {
            throw new IllegalStateException("there is no " + SOURCE, e);
        }
    }

    private static TreeSet<String> due() {
        TreeSet<String> rows = new TreeSet<>();
        for (String row : FACE) {
            String text = row.replace(";", "");
            String head = text.substring(0, text.indexOf('('));
            List<String> types = new ArrayList<>();
            for (String part : text.substring(text.indexOf('(') + 1, text.indexOf(')')).split(", ")) {
                if (!part.isEmpty()) {
                    types.add(part.split(" ")[0]);
                }
            }
            rows.add(head + types + text.substring(text.indexOf(')') + 1));
        }
        return rows;
    }

    private static TreeSet<String> got() {
        TreeSet<String> rows = new TreeSet<>();
        for (Method method : Dominofs.class.getDeclaredMethods()) {
            if (Modifier.isPrivate(method.getModifiers())) {
                continue;
            }
            List<String> types = new ArrayList<>();
            for (Class<?> type : method.getParameterTypes()) {
                types.add(type.getSimpleName());
            }
            List<String> thrown = new ArrayList<>();
            for (Class<?> type : method.getExceptionTypes()) {
                thrown.add(type.getSimpleName());
            }
            rows.add(Modifier.toString(method.getModifiers()) + " " + method.getReturnType() + " " + method.getName()
                    + types + (thrown.isEmpty() ? "" : " throws " + String.join(", ", thrown)));
        }
        return rows;
    }
}
