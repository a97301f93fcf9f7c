import java.lang.reflect.Constructor;
import java.lang.reflect.Field;
import java.lang.reflect.Method;
import java.lang.reflect.Modifier;
import java.util.Set;
import java.util.TreeSet;

/** The class shows the public face of the document and nothing beside it. */
public final class FaceTest {
    private static final Set<String> FACE = Set.of(
            "public static final int WinogradEngine.BAD",
            "public WinogradEngine()",
            "public boolean WinogradEngine.set(int,int)",
            "public int WinogradEngine.stripe(int,int,int,int)",
            "public boolean WinogradEngine.weight(int,int,int)",
            "public int WinogradEngine.response(int,int)",
            "public int WinogradEngine.second(int)",
            "public int WinogradEngine.greatest(int)",
            "public int WinogradEngine.where(int)",
            "public int WinogradEngine.total(int)",
            "public int WinogradEngine.pooled(int,int)",
            "public int WinogradEngine.apply(int)",
            "public boolean WinogradEngine.turn(int)");

    public static void main(String[] args) {
        Class<?> face = WinogradEngine.class;
        Set<String> seen = new TreeSet<>();
        for (Field field : face.getDeclaredFields()) {
            if (!Modifier.isPrivate(field.getModifiers())) {
                seen.add(field.toString());
            }
        }
        for (Constructor<?> constructor : face.getDeclaredConstructors()) {
            seen.add(constructor.toString());
        }
        for (Method method : face.getDeclaredMethods()) {
            if (!Modifier.isPrivate(method.getModifiers())) {
                seen.add(method.toString());
            }
        }
        boolean right = seen.equals(FACE)
                && face.getModifiers() == (Modifier.PUBLIC | Modifier.FINAL)
                && face.getSuperclass() == Object.class
                && face.getInterfaces().length == 0
                && face.getDeclaredClasses().length == 0
                && WinogradEngine.BAD == -1000000000;
        System.out.println(right ? "the face is as due" : "the face is not as due: " + seen);
        if (!right) {
            System.exit(1);
        }
    }
}
