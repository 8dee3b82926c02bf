import java.lang.reflect.InvocationTargetException;
import java.lang.reflect.Method;
import java.util.Arrays;
import java.util.Comparator;

/** What the tests share: a runner, files from parts, and states and answers that are due. */
final class Bench {
    static final int BLACK = 255;
    static final int FILLER = 0x0A0B0C0D;

    /** A picture and a file that a refused call must leave alone. */
    static final Story SOME = drawn(3, 2, 11, 12, 13, 14, 15, -16).and(x -> x.feed(7)).and(x -> x.feed(0))
            .and(x -> x.feed(255));
    static final int[] SOME_PIXELS = {11, 12, 13, 14, 15, -16};
    static final int[] SOME_FILE = {7, 0, 255};

    private static final int MOST_PRINTED = 60;
    private static final int MOST_FED = 400;

    /** The longest file that encode writes; it takes few calls, and so files too long to be fed are made from it. */
    private static final int[] LONGEST = longest();

    private static String current = "";
    private static int wrong = 0;
    private static int looked = 0;

    private Bench() {
    }

    /** Runs every test of the class that holds a sentence. */
    static void run(Class<?> tests) {
        Method[] methods = tests.getDeclaredMethods();
        Arrays.sort(methods, Comparator.comparing(Method::getName));
        int count = 0;
        for (Method method : methods) {
            Holds holds = method.getAnnotation(Holds.class);
            if (holds != null) {
                current = method.getName() + " (" + holds.value() + ")";
                count++;
                run(method);
            }
        }
        current = "";
        due("no test in " + tests, count == 0, false);
        System.out.println(count + " sentences");
        end();
    }

    /** Ends with exit code 1 if an answer was not as due. */
    static void end() {
        System.out.println(looked + " answers, " + wrong + " of them not as due");
        if (wrong != 0) {
            System.exit(1);
        }
    }

    private static void run(Method method) {
        try {
            method.setAccessible(true);
            method.invoke(null);
        } catch (InvocationTargetException thrown) {
            fail("threw " + thrown.getCause());
        } catch (IllegalAccessException noTest) {
            fail("cannot be called");
        }
    }

    static void fail(String what) {
        wrong++;
        if (wrong <= MOST_PRINTED) {
            System.out.println(current + ": " + what);
        }
    }

    static void due(String what, long got, long want) {
        looked++;
        if (got != want) {
            fail(what + " answered " + got + ", due is " + want);
        }
    }

    static void due(String what, boolean got, boolean want) {
        due(what, got ? 1 : 0, want ? 1 : 0);
    }

    private static void dueAnswers(String what, int[] got, int[] want, int from) {
        for (int k = 0; k < Math.min(got.length, want.length); k++) {
            due(what + ": " + State.name(from + k), got[k], want[k]);
        }
        due(what + ": the number of answers", got.length, want.length);
    }

    static void dueState(String what, Story story, int width, int height, int[] pixels, int[] file) {
        dueState(what, story, State.of(width, height, pixels, file));
    }

    static void dueState(String what, Story story, int[] state) {
        dueAnswers(what, State.after(story), state, 0);
    }

    /** The call answers this and changes nothing: each answer of the state is asked for before it and behind it. */
    static void dueUnchanged(String what, Story story, Story.Called call, int answer) {
        int size = 1;
        int from = 0;
        while (from < size) {
            Subject x = new Subject();
            story.tell(x);
            size = State.size(x.length());
            int to = Math.min(size, from + (x.callsLeft() - 1) / 2);
            int[] before = State.part(x, from, to);
            due(what, call.call(x), answer);
            dueAnswers(what + " changed something", State.part(x, from, to), before, from);
            from = to;
        }
    }

    static void dueRefused(String what, Story story, Story.Asked call) {
        dueUnchanged(what, story, x -> call.ask(x) ? 1 : 0, 0);
    }

    /** Refused on SOME. */
    static void dueRefused(String what, Story.Asked call) {
        dueRefused(what, SOME, call);
    }

    static int[] filled(int size, int value) {
        int[] row = new int[size];
        Arrays.fill(row, value);
        return row;
    }

    /** Bytes from numbers, texts and rows of bytes. */
    static int[] file(Object... parts) {
        int[] row = new int[2000];
        int size = 0;
        for (Object part : parts) {
            if (part instanceof String text) {
                for (int i = 0; i < text.length(); i++) {
                    row[size++] = text.charAt(i);
                }
            } else if (part instanceof int[] bytes) {
                System.arraycopy(bytes, 0, row, size, bytes.length);
                size += bytes.length;
            } else {
                row[size++] = (Integer) part;
            }
        }
        return Arrays.copyOf(row, size);
    }

    static int[] with(int[] file, int place, int... bytes) {
        int[] other = file.clone();
        System.arraycopy(bytes, 0, other, place, bytes.length);
        return other;
    }

    static int[] without(int[] file, int lastBytes) {
        return Arrays.copyOf(file, file.length - lastBytes);
    }

    static int[] little(int value) {
        return new int[] {value & 255, value >>> 8 & 255, value >>> 16 & 255, value >>> 24};
    }

    static int[] big(int value) {
        return new int[] {value >>> 24, value >>> 16 & 255, value >>> 8 & 255, value & 255};
    }

    static int[] row(int... numbers) {
        return numbers;
    }

    static int rgba(int red, int green, int blue, int alpha) {
        return red * 0x1000000 + green * 0x10000 + blue * 0x100 + alpha;
    }

    static int rgb(int red, int green, int blue) {
        return rgba(red, green, blue, 255);
    }

    static int grey(int value) {
        return rgb(value, value, value);
    }

    static int[] greys(int... values) {
        int[] pixels = new int[values.length];
        for (int i = 0; i < values.length; i++) {
            pixels[i] = grey(values[i]);
        }
        return pixels;
    }

    /** A picture with these pixels, and black ones where none are given. */
    static Story drawn(int width, int height, int... pixels) {
        return x -> draw(x, width, height, pixels);
    }

    private static void draw(Subject x, int width, int height, int... pixels) {
        due("make(" + width + ", " + height + ")", x.make(width, height), true);
        for (int i = 0; i < pixels.length; i++) {
            if (pixels[i] != BLACK) {
                due("put of pixel " + i, x.put(i % width, i / width, pixels[i]), true);
            }
        }
    }

    static Story fed(int... file) {
        return x -> load(x, file);
    }

    /** The file that is to be read, behind a picture that is none of a file's. */
    private static Story given(int[] file) {
        return x -> {
            load(x, file);
            draw(x, 2, 1, FILLER, FILLER);
        };
    }

    private static void load(Subject x, int[] file) {
        int size = 0;
        if (file.length > MOST_FED) {
            writeLongest(x);
            size = LONGEST.length;
            if (size > file.length) {
                size = file.length;
                due("cut on the way", x.cut(size), true);
            }
        }
        for (int i = 0; i < file.length; i++) {
            if (i >= size) {
                due("feed(" + file[i] + ")", x.feed(file[i]), true);
            } else if (file[i] != LONGEST[i]) {
                due("alter(" + i + ", " + file[i] + ")", x.alter(i, file[i]), true);
            }
        }
    }

    private static void writeLongest(Subject x) {
        for (int b : file(0, 0, 10, new int[9], 8, 0, 8, 0, 24, 32, 127 + 64, 200, 150, 100)) {
            due("feed(" + b + ")", x.feed(b), true);
        }
        due("decode on the way", x.decode(), 3);
        due("encode on the way", x.encode(1, 1), LONGEST.length);
    }

    private static int[] longest() {
        int[] file = file("P3\n8 8\n255\n");
        for (int i = 0; i < 64; i++) {
            file = file(file, "100 150 200", i % 8 == 7 ? "\n" : " ");
        }
        return file;
    }

    static int[] longestFile() {
        return LONGEST.clone();
    }

    /** So many bytes, which begin and end with these; what is between is anything. */
    static int[] longFile(int[] first, int size, int[] last) {
        int[] file = Arrays.copyOf(LONGEST, size);
        System.arraycopy(first, 0, file, 0, first.length);
        System.arraycopy(last, 0, file, size - last.length, last.length);
        return file;
    }

    /** Reads the file, which must give this picture and leave the file alone. */
    static void dueRead(String what, int[] file, int format, int width, int height, int... pixels) {
        dueState(what, given(file).and(Subject::sniff, format).and(Subject::decode, format), width, height, pixels,
                file);
    }

    /** Reads the file, which must have this fault and change nothing. */
    static void dueFault(String what, int[] file, int fault) {
        dueUnchanged(what, given(file), Subject::decode, fault);
    }

    static void dueBroken(String what, int[] file) {
        dueFault(what, file, FourPictureFiles.BROKEN);
    }

    static void dueShort(String what, int[] file) {
        dueFault(what, file, FourPictureFiles.SHORT);
    }

    /** BROKEN with this last byte at once, and SHORT before it is there. */
    static void dueBrokenAtLast(String what, int[] file) {
        dueBroken(what, file);
        dueShort(what + ", not yet there", without(file, 1));
    }

    /** Every beginning of the file with at least this many bytes is SHORT. */
    static void dueShortBeginnings(String what, int[] file, int least) {
        for (int n = least; n < file.length; n++) {
            dueShort(what + " cut to " + n, Arrays.copyOf(file, n));
        }
    }

    /** Writes the picture, which must give this file and leave the picture alone. */
    static void dueWritten(String what, Story story, int format, int how, int[] file) {
        int[] state = State.withFile(State.after(story), file);
        dueState(what, story.and(x -> x.encode(format, how), file.length), state);
    }

    static void dueNotWritten(String what, Story story, int format, int how) {
        dueUnchanged(what, story, x -> x.encode(format, how), FourPictureFiles.UNKNOWN);
    }

    /** The file that is written for the picture. */
    static int[] written(Story story, int format, int how) {
        return State.file(State.after(x -> {
            story.tell(x);
            x.encode(format, how);
        }));
    }
}
