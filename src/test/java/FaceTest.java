import java.lang.reflect.Constructor;
import java.lang.reflect.Field;
import java.lang.reflect.Method;
import java.lang.reflect.Modifier;
import java.util.Set;
import java.util.TreeSet;

/** The document's face, and no member beside it that is not private. */
public final class FaceTest {
    private static final Set<String> FACE = Set.of(
        "NONE = -1", "BAD = -2", "NO = -3", "FULL = -4", "NEAR = -5",
        "FerryDeck()",
        "int vehicle(int, int, int)", "int ask(int, int, int)", "int trace(int)", "int lane(int, int, int)",
        "int season(int)", "int board(int, int)", "int off(int)", "int sail()", "int back(int)",
        "int told(int, int)", "int deck(int, int)", "int count(int)", "long till()");

    public static void main(String[] args) throws ReflectiveOperationException {
        Set<String> found = new TreeSet<>();
        for (Field f : FerryDeck.class.getDeclaredFields()) {
            if (!Modifier.isPrivate(f.getModifiers())) {
                found.add(isConstant(f) ? f.getName() + " = " + f.getInt(null) : f.toString());
            }
        }
        for (Constructor<?> c : FerryDeck.class.getDeclaredConstructors()) {
            if (!Modifier.isPrivate(c.getModifiers())) {
                found.add((Modifier.isPublic(c.getModifiers()) ? "" : "not public ") + c.getName()
                    + types(c.getParameterTypes()));
            }
        }
        for (Method m : FerryDeck.class.getDeclaredMethods()) {
            if (!Modifier.isPrivate(m.getModifiers())) {
                found.add(m.getModifiers() == Modifier.PUBLIC
                    ? m.getReturnType() + " " + m.getName() + types(m.getParameterTypes())
                    : m.toString());
            }
        }
        int modifiers = FerryDeck.class.getModifiers();
        if (!found.equals(FACE) || !Modifier.isPublic(modifiers) || !Modifier.isFinal(modifiers)) {
            System.out.println("the face is " + Modifier.toString(modifiers) + " " + found);
            System.out.println("due is public final " + new TreeSet<>(FACE));
            System.exit(1);
        }
    }

    private static boolean isConstant(Field f) {
        return f.getModifiers() == (Modifier.PUBLIC | Modifier.STATIC | Modifier.FINAL) && f.getType() == int.class;
    }

    private static String types(Class<?>[] types) {
        StringBuilder text = new StringBuilder("(");
        for (Class<?> type : types) {
            text.append(text.length() > 1 ? ", " : "").append(type);
        }
        return text.append(")").toString();
    }
}
