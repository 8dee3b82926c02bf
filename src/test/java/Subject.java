/** An object under test that counts its calls, because the document promises nothing behind the 512th. */
final class Subject {
    static final int MOST_CALLS = 512;

    private final FourPictureFiles object = new FourPictureFiles();
    private int calls;

    private FourPictureFiles next() {
        calls++;
        if (calls > MOST_CALLS) {
            throw new IllegalStateException("the test makes more than " + MOST_CALLS + " calls on one object");
        }
        return object;
    }

    int callsLeft() {
        return MOST_CALLS - calls;
    }

    boolean make(int width, int height) {
        return next().make(width, height);
    }

    boolean put(int x, int y, int pixel) {
        return next().put(x, y, pixel);
    }

    int pixel(int x, int y) {
        return next().pixel(x, y);
    }

    int width() {
        return next().width();
    }

    int height() {
        return next().height();
    }

    boolean change(int how) {
        return next().change(how);
    }

    boolean feed(int b) {
        return next().feed(b);
    }

    boolean cut(int n) {
        return next().cut(n);
    }

    boolean alter(int i, int b) {
        return next().alter(i, b);
    }

    int length() {
        return next().length();
    }

    int byteAt(int i) {
        return next().byteAt(i);
    }

    int sniff() {
        return next().sniff();
    }

    int encode(int format, int how) {
        return next().encode(format, how);
    }

    int decode() {
        return next().decode();
    }
}
