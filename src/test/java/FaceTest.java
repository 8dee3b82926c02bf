import java.lang.reflect.Constructor;
import java.lang.reflect.Field;
import java.lang.reflect.Method;
import java.lang.reflect.Modifier;
import java.util.Arrays;
import java.util.TreeSet;

/** The public face: what the document lists, and nothing more that others can see. */
public final class FaceTest {
    private static final String[] FACE = {
        "int BROKEN", "int SHORT", "int UNKNOWN", "FourPictureFiles()",
        "boolean alter(int, int)", "boolean change(int)", "boolean cut(int)", "boolean feed(int)",
        "boolean make(int, int)", "boolean put(int, int, int)", "int byteAt(int)", "int decode()",
        "int encode(int, int)", "int height()", "int length()", "int pixel(int, int)", "int sniff()", "int width()"
    };

    public static void main(String[] args) {
        TreeSet<String> seen = new TreeSet<>();
        Class<?> face = FourPictureFiles.class;
        for (Field field : face.getDeclaredFields()) {
            if (!Modifier.isPrivate(field.getModifiers())) {
                Bench.due(field + " is public static final", field.getModifiers(),
                        Modifier.PUBLIC | Modifier.STATIC | Modifier.FINAL);
                seen.add(field.getType() + " " + field.getName());
            }
        }
        for (Constructor<?> constructor : face.getDeclaredConstructors()) {
            Bench.due(constructor + " is public", constructor.getModifiers(), Modifier.PUBLIC);
            seen.add("FourPictureFiles" + parameters(constructor.getParameterTypes()));
        }
        TreeSet<String> hidden = new TreeSet<>();
        TreeSet<String> shown = new TreeSet<>();
        for (Method method : face.getDeclaredMethods()) {
            if (Modifier.isPrivate(method.getModifiers())) {
                hidden.add(method.getName());
            } else {
                Bench.due(method + " is public", method.getModifiers(), Modifier.PUBLIC);
                shown.add(method.getName());
                seen.add(method.getReturnType() + " " + method.getName() + parameters(method.getParameterTypes()));
            }
        }
        for (String name : shown) {
            Bench.due("a private method " + name, hidden.contains(name), false);
        }
        Bench.due("the face " + seen, seen.equals(new TreeSet<>(Arrays.asList(FACE))), true);
        Bench.due("the class is public final", face.getModifiers(), Modifier.PUBLIC | Modifier.FINAL);
        Bench.end();
    }

    private static String parameters(Class<?>[] types) {
        StringBuilder text = new StringBuilder("(");
        for (int i = 0; i < types.length; i++) {
            text.append(i == 0 ? "" : ", ").append(types[i]);
        }
        return text.append(")").toString();
    }
}
