import java.lang.reflect.Constructor;
import java.lang.reflect.Field;
import java.lang.reflect.Method;
import java.lang.reflect.Modifier;
import java.util.ArrayList;
import java.util.List;
import java.util.TreeSet;

/** The class has the document's face, just so, and nothing else that another class could use. */
final class FaceTest {
    private static final String FACE = """
        public int house(int pips, int players, int tiles, boolean areDraws, char ruling) throws IllegalArgumentException, IllegalStateException;
        public int game(int house, int seed) throws IndexOutOfBoundsException, IllegalArgumentException, IllegalStateException;
        public boolean lay(int game, int tile, boolean isLeft) throws IndexOutOfBoundsException, IllegalArgumentException, IllegalStateException, UnsupportedOperationException;
        public int draw(int game) throws IndexOutOfBoundsException, IllegalStateException, UnsupportedOperationException;
        public boolean pass(int game) throws IndexOutOfBoundsException, IllegalStateException, UnsupportedOperationException;
        public int mover(int game) throws IndexOutOfBoundsException, IllegalStateException;
        public long hand(int game, int player) throws IndexOutOfBoundsException;
        public int stock(int game) throws IndexOutOfBoundsException;
        public int end(int game, boolean isLeft) throws IndexOutOfBoundsException, NoSuchElementException;
        public int line(int game) throws IndexOutOfBoundsException;
        public char sign(int game, int place, boolean isTurned) throws IndexOutOfBoundsException, NoSuchElementException;
        public boolean isOver(int game) throws IndexOutOfBoundsException;
        public boolean isBlocked(int game) throws IndexOutOfBoundsException;
        public int winner(int game) throws IndexOutOfBoundsException, NoSuchElementException;
        public char why(int depth) throws NoSuchElementException;
        public int bet(int better, int game, int player, int coins) throws IndexOutOfBoundsException, IllegalArgumentException, IllegalStateException;
        public int purse(int better) throws IndexOutOfBoundsException;
        public int pool(int game) throws IndexOutOfBoundsException;
        public int paid(int game, int bet) throws IndexOutOfBoundsException;
        public int club();
        public int appeal(int game, char ruling) throws IndexOutOfBoundsException, IllegalArgumentException, UnsupportedOperationException, IllegalStateException;
        public char ruling(int game) throws IndexOutOfBoundsException;
        public int entries();
        public int loose();
        public char entry(int index) throws NoSuchElementException;
        public int gameOf(int index) throws NoSuchElementException;
        public int flush();
        public int crash();
        public int checkpoint() throws UnsupportedOperationException, IllegalStateException;
        public int behind(int checkpoint) throws IndexOutOfBoundsException;
        public long replay(int checkpoint) throws IndexOutOfBoundsException;
        public long checksum();
        public float playedShare() throws NoSuchElementException;
        public double meanPurse();
        public boolean isSound();
        """;

    private FaceTest() {
    }

    static void run(Checks checks) {
        checks.due("the class's modifiers", Modifier.PUBLIC | Modifier.FINAL, Dominofs.class.getModifiers());
        checks.due("the methods", due(), got());
        Constructor<?>[] constructors = Dominofs.class.getDeclaredConstructors();
        checks.due("the constructors", 1, constructors.length);
        checks.due("the constructor", "public Dominofs()", constructors[0].toString());
        for (Field field : Dominofs.class.getDeclaredFields()) {
            checks.due("private " + field, true, Modifier.isPrivate(field.getModifiers()));
        }
        for (Class<?> inside : Dominofs.class.getDeclaredClasses()) {
            checks.due("static " + inside, true, Modifier.isStatic(inside.getModifiers()));
            checks.due("not public " + inside, 0, inside.getModifiers() & (Modifier.PUBLIC | Modifier.PROTECTED));
            for (Method method : inside.getDeclaredMethods()) {
                checks.due("no name of the face " + method, false, FACE.contains(" " + method.getName() + "("));
            }
        }
    }

    private static TreeSet<String> due() {
        TreeSet<String> rows = new TreeSet<>();
        for (String row : FACE.strip().split("\n")) {
            String text = row.strip().replace(";", "");
            String head = text.substring(0, text.indexOf('('));
            List<String> types = new ArrayList<>();
            for (String part : text.substring(text.indexOf('(') + 1, text.indexOf(')')).split(", ")) {
                if (!part.isEmpty()) {
                    types.add(part.split(" ")[0]);
                }
            }
            rows.add(head + types + text.substring(text.indexOf(')') + 1));
        }
        return rows;
    }

    private static TreeSet<String> got() {
        TreeSet<String> rows = new TreeSet<>();
        for (Method method : Dominofs.class.getDeclaredMethods()) {
            if (Modifier.isPrivate(method.getModifiers())) {
                continue;
            }
            List<String> types = new ArrayList<>();
            for (Class<?> type : method.getParameterTypes()) {
                types.add(type.getSimpleName());
            }
            List<String> thrown = new ArrayList<>();
            for (Class<?> type : method.getExceptionTypes()) {
                thrown.add(type.getSimpleName());
            }
            rows.add(Modifier.toString(method.getModifiers()) + " " + method.getReturnType() + " " + method.getName()
                    + types + (thrown.isEmpty() ? "" : " throws " + String.join(", ", thrown)));
        }
        return rows;
    }
}
