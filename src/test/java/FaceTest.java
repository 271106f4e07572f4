import java.lang.reflect.Constructor;
import java.lang.reflect.Field;
import java.lang.reflect.Method;
import java.lang.reflect.Modifier;
import java.util.Arrays;
import java.util.Set;
import java.util.TreeSet;

/** The public face: what the document lists, and nothing else that can be seen. */
public final class FaceTest {
    private static final Set<String> METHODS = new TreeSet<>(Arrays.asList(
        "boolean factory(int,int,int)", "int boot()", "boolean off()", "boolean cut(int)", "int safe()",
        "int begin(int,int)", "int feed(long,int)", "int request()", "int confirm()", "int byteAt(int)",
        "int version(int)", "int state(int)"));

    public static void main(String[] args) {
        Check check = new Check("FaceTest");
        check.due("BAD", SwapLoader.BAD, -1);
        check.due("GONE", SwapLoader.GONE, -2);
        int modifiers = SwapLoader.class.getModifiers();
        check.due("public final", Modifier.isPublic(modifiers) && Modifier.isFinal(modifiers), true);

        Set<String> seen = new TreeSet<>();
        for (Method m : SwapLoader.class.getDeclaredMethods()) {
            if (!Modifier.isPrivate(m.getModifiers())) {
                String types = Arrays.toString(m.getParameterTypes()).replaceAll("[\\[\\] ]", "");
                seen.add(m.getReturnType() + " " + m.getName() + "(" + types + ")");
                check.due(m.getName() + " is public", Modifier.isPublic(m.getModifiers()), true);
            }
        }
        check.due("methods " + seen, seen.equals(METHODS), true);

        for (Constructor<?> c : SwapLoader.class.getDeclaredConstructors()) {
            check.due("constructor " + c, Modifier.isPublic(c.getModifiers()) && c.getParameterCount() == 0, true);
        }
        for (Field f : SwapLoader.class.getDeclaredFields()) {
            boolean constant = f.getName().equals("BAD") || f.getName().equals("GONE");
            check.due("field " + f, constant || Modifier.isPrivate(f.getModifiers()), true);
        }
        check.end();
    }
}
