import java.util.Arrays;

/**
 * A state as a row of answers: of width, height and length, of pixel for all places in and just outside of the
 * greatest picture, and of byteAt for all places in and just outside of the file.
 */
final class State {
    private static final int SPAN = 10;
    private static final int PIXELS = 3;
    private static final int BYTES = PIXELS + SPAN * SPAN;

    private State() {
    }

    static int size(int length) {
        return BYTES + length + 2;
    }

    private static int column(int k) {
        return (k - PIXELS) % SPAN - 1;
    }

    private static int row(int k) {
        return (k - PIXELS) / SPAN - 1;
    }

    private static int place(int k) {
        return k - BYTES - 1;
    }

    static String name(int k) {
        if (k < PIXELS) {
            return k == 0 ? "width()" : k == 1 ? "height()" : "length()";
        }
        return k < BYTES ? "pixel(" + column(k) + ", " + row(k) + ")" : "byteAt(" + place(k) + ")";
    }

    private static int answer(Subject x, int k) {
        if (k < PIXELS) {
            return k == 0 ? x.width() : k == 1 ? x.height() : x.length();
        }
        return k < BYTES ? x.pixel(column(k), row(k)) : x.byteAt(place(k));
    }

    static int[] part(Subject x, int from, int to) {
        int[] answers = new int[to - from];
        for (int k = from; k < to; k++) {
            answers[k - from] = answer(x, k);
        }
        return answers;
    }

    /** The whole state behind a story, which is told on a new object whenever the calls of one run out. */
    static int[] after(Story story) {
        int[] answers = new int[0];
        int size = 1;
        while (answers.length < size) {
            Subject x = new Subject();
            story.tell(x);
            size = size(x.length());
            int from = answers.length;
            int to = Math.min(size, from + x.callsLeft());
            answers = Arrays.copyOf(answers, to);
            System.arraycopy(part(x, from, to), 0, answers, from, to - from);
        }
        return answers;
    }

    /** The state that is due with this picture, given in picture order, and this file. */
    static int[] of(int width, int height, int[] pixels, int[] file) {
        int[] answers = new int[size(file.length)];
        answers[0] = width;
        answers[1] = height;
        answers[2] = file.length;
        for (int i = 0; i < width * height; i++) {
            answers[PIXELS + (i / width + 1) * SPAN + i % width + 1] = pixels[i];
        }
        answers[BYTES] = -1;
        System.arraycopy(file, 0, answers, BYTES + 1, file.length);
        answers[BYTES + 1 + file.length] = -1;
        return answers;
    }

    /** The same picture with another file. */
    static int[] withFile(int[] state, int[] file) {
        int[] answers = Arrays.copyOf(state, size(file.length));
        int[] other = of(1, 1, new int[1], file);
        answers[2] = other[2];
        System.arraycopy(other, BYTES, answers, BYTES, other.length - BYTES);
        return answers;
    }

    static int[] file(int[] state) {
        return Arrays.copyOfRange(state, BYTES + 1, state.length - 1);
    }
}
