import java.io.IOException;
import java.lang.reflect.Method;
import java.nio.file.DirectoryStream;
import java.nio.file.Files;
import java.nio.file.Path;
import java.util.List;

/** Every word of the document's terms and promises is held by a test, and every test holds words that stand there. */
public final class SentenceTest {
    private static final Path DOCUMENT = Path.of("../shared/DOC.md");
    private static final Path TESTS = Path.of("src/test/java");

    public static void main(String[] args) throws IOException, ClassNotFoundException {
        if (!Files.exists(DOCUMENT)) {
            System.out.println("not looked at, because there is no " + DOCUMENT);
            return;
        }
        String text = Files.readString(DOCUMENT);
        String whole = plain(text);
        String due = plain(text.substring(text.indexOf("## Terms"), text.indexOf("## Not promised")));
        boolean[] held = new boolean[due.length()];
        try (DirectoryStream<Path> files = Files.newDirectoryStream(TESTS, "*Test.java")) {
            for (Path file : files) {
                String name = file.getFileName().toString();
                mark(Class.forName(name.substring(0, name.length() - ".java".length())), whole, due, held);
            }
        }
        tellRest(due, held);
        Bench.end();
    }

    /** The text without headings, fences and the faces of the methods, with one space between words. */
    private static String plain(String text) {
        List<String> lines = text.lines().filter(line -> !line.startsWith("#") && !line.startsWith("```")).toList();
        return String.join(" ", lines).replaceAll("`[^`]*`:", "").replaceAll("\\s+", " ");
    }

    private static void mark(Class<?> tests, String whole, String due, boolean[] held) {
        for (Method method : tests.getDeclaredMethods()) {
            Holds holds = method.getAnnotation(Holds.class);
            if (holds == null) {
                continue;
            }
            String words = holds.value();
            int place = whole.indexOf(words);
            Bench.due("the words of " + method + " stand in the document", place >= 0, true);
            Bench.due("the words of " + method + " stand there twice", whole.indexOf(words, place + 1) >= 0, false);
            int from = due.indexOf(words);
            for (int i = 0; from >= 0 && i < words.length(); i++) {
                held[from + i] = true;
            }
        }
    }

    private static void tellRest(String due, boolean[] held) {
        StringBuilder rest = new StringBuilder();
        for (int i = 0; i <= due.length(); i++) {
            boolean isFree = i < due.length() && !held[i];
            if (isFree) {
                rest.append(due.charAt(i));
            } else if (!rest.isEmpty()) {
                Bench.due("a test that holds: " + rest, rest.toString().isBlank(), true);
                rest.setLength(0);
            }
        }
    }
}
