import java.lang.reflect.Constructor;
import java.lang.reflect.Field;
import java.lang.reflect.Method;
import java.lang.reflect.Modifier;
import java.util.Arrays;
import java.util.Set;
import java.util.TreeSet;

/** The face of the document, no member more and none less. */
public final class FaceTest {
    private static final String[] FACE = {
        "HoldMaps() throws []",
        "int NONE",
        "int make(int) throws [IllegalArgumentException, IllegalStateException]",
        "int refer(int, int, int) throws [IllegalArgumentException]",
        "boolean root(int, boolean) throws [IllegalArgumentException]",
        "int put(int, int, int) throws [IllegalArgumentException, IllegalStateException]",
        "int get(int, int) throws [IllegalArgumentException]",
        "int remove(int, int) throws [IllegalArgumentException]",
        "int size(int) throws []",
        "int entry(int, int, int) throws [NoSuchElementException]",
        "void walk(int) throws [IllegalArgumentException]",
        "int step(int) throws [IllegalArgumentException, IllegalStateException, NoSuchElementException]",
        "int collect(int) throws [IllegalArgumentException]",
        "int value(int) throws []",
        "int count(int) throws []",
    };

    public static void main(String[] args) {
        Check check = new Check();
        Set<String> found = new TreeSet<>();
        for (Constructor<?> c : HoldMaps.class.getDeclaredConstructors()) {
            if (!Modifier.isPrivate(c.getModifiers())) {
                found.add("HoldMaps" + list(c.getParameterTypes(), "(", ")") + thrown(c.getExceptionTypes()));
            }
        }
        for (Field f : HoldMaps.class.getDeclaredFields()) {
            if (!Modifier.isPrivate(f.getModifiers())) {
                found.add(f.getType() + " " + f.getName());
            }
        }
        for (Method m : HoldMaps.class.getDeclaredMethods()) {
            if (!Modifier.isPrivate(m.getModifiers())) {
                found.add(m.getReturnType() + " " + m.getName() + list(m.getParameterTypes(), "(", ")")
                        + thrown(m.getExceptionTypes()));
            }
        }
        check.same("the face", found, new TreeSet<>(Arrays.asList(FACE)));
        check.same("the class", Modifier.toString(HoldMaps.class.getModifiers()), "public final");
        check.same("NONE", HoldMaps.NONE, -1);
        check.end();
    }

    private static String thrown(Class<?>[] types) {
        return " throws " + list(types, "[", "]");
    }

    private static String list(Class<?>[] types, String open, String close) {
        StringBuilder text = new StringBuilder(open);
        for (Class<?> type : types) {
            text.append(text.length() == 1 ? "" : ", ").append(type.getSimpleName());
        }
        return text.append(close).toString();
    }
}
