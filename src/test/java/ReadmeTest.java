import java.io.IOException;
import java.lang.reflect.Constructor;
import java.lang.reflect.Field;
import java.lang.reflect.Method;
import java.lang.reflect.Modifier;
import java.nio.file.Files;
import java.nio.file.Path;
import java.util.regex.Pattern;

/** README.md has a row for each constant and call of the face, and its example is the one that runs here. */
public final class ReadmeTest {
    private static final Path README = Path.of("README.md");
    private static final Path OWN_TEXT = Path.of("src/test/java/ReadmeTest.java");
    private static final String BEGIN = "        // The example begins.\n";
    private static final String END = "        // The example ends.\n";

    public static void main(String[] args) throws IOException, IllegalAccessException {
        String readme = Files.readString(README);
        dueConstants(readme);
        dueCalls(readme);
        dueExample(readme);
        runExample();
        Bench.due("how to run the tests", readme.contains("```sh\n.ci/run\n```"), true);
        Bench.end();
    }

    private static void dueConstants(String readme) throws IllegalAccessException {
        for (Field field : FourPictureFiles.class.getDeclaredFields()) {
            if (Modifier.isPublic(field.getModifiers())) {
                dueRow(readme, field.getName(), " " + field.getInt(null) + " \\| [^|\\s]");
            }
        }
    }

    private static void dueCalls(String readme) {
        for (Constructor<?> constructor : FourPictureFiles.class.getConstructors()) {
            dueRow(readme, "FourPictureFiles" + parameters(constructor.getParameterTypes()), " [^|\\s].* \\|");
        }
        for (Method method : FourPictureFiles.class.getDeclaredMethods()) {
            if (Modifier.isPublic(method.getModifiers())) {
                String face = method.getReturnType() + " " + method.getName() + parameters(method.getParameterTypes());
                dueRow(readme, face, ".* \\| [^|\\s]");
            }
        }
    }

    /** There is one row whose first cell is the name, and whose other cells begin as told. */
    private static void dueRow(String readme, String name, String rest) {
        Pattern row = Pattern.compile("^\\| `" + name + "` \\|" + rest, Pattern.MULTILINE);
        Bench.due("rows for " + name, row.matcher(readme).results().count(), 1);
    }

    private static String parameters(Class<?>[] types) {
        StringBuilder text = new StringBuilder("\\(");
        for (int i = 0; i < types.length; i++) {
            text.append(i == 0 ? "" : ", ").append(types[i]).append(" \\w+");
        }
        return text.append("\\)").toString();
    }

    private static void dueExample(String readme) throws IOException {
        String text = Files.readString(OWN_TEXT);
        String method = text.substring(text.indexOf("void runExample()"));
        String example = between(method, BEGIN, END).indent(-BEGIN.indexOf('/'));
        Bench.due("the example is the one of this test", between(readme, "```java\n", "```\n").equals(example), true);
    }

    private static String between(String text, String begin, String end) {
        int from = text.indexOf(begin) + begin.length();
        return text.substring(from, text.indexOf(end, from));
    }

    private static void runExample() {
        // The example begins.
        FourPictureFiles x = new FourPictureFiles();
        x.make(3, 2);                       // a picture, 3 wide and 2 high: all pixels are 0, 0, 0, 255
        x.put(0, 0, 0xFF0000FF);            // the one on the top left becomes red
        int length = x.encode(0, 0);        // 25: so many bytes has the file, which is the picture in format 0
        int[] bytes = new int[length];
        for (int i = 0; i < length; i++) {
            bytes[i] = x.byteAt(i);         // 113, 111, 105, 102, ...
        }

        x.cut(0);                           // an empty file again; the picture stays
        for (char c : "P2 1 1 15 7".toCharArray()) {
            x.feed(c);
        }
        int format = x.sniff();             // 1: the format that the file has
        int read = x.decode();              // 1: it was read, and its picture is the picture now
        int grey = x.pixel(0, 0);           // 0x777777FF

        x.cut(9);                           // the file ends before its sample
        int fault = x.decode();             // SHORT, and the picture is the same as before
        // The example ends.
        Bench.due("the length", length, 25);
        Bench.due("the first byte", bytes[0], 113);
        Bench.due("the fourth byte", bytes[3], 102);
        Bench.due("the format", format, 1);
        Bench.due("read", read, 1);
        Bench.due("the grey pixel", grey, 0x777777FF);
        Bench.due("the fault", fault, FourPictureFiles.SHORT);
        Bench.due("the pixel behind the fault", x.pixel(0, 0), 0x777777FF);
    }
}
