import java.util.Arrays;

/**
 * What the tests share: files from parts, and calls with the answers that are due. Tests of long files make more
 * than the 512 calls that are promised for an object; they lean on the program's not counting them.
 */
final class Bench {
    static final int FILLER = 0x0A0B0C0D;

    private static int wrong = 0;
    private static int looked = 0;

    private Bench() {
    }

    static void due(String what, long got, long want) {
        looked++;
        if (got != want) {
            wrong++;
            System.out.println(what + " answered " + got + ", due is " + want);
        }
    }

    static void due(String what, boolean got, boolean want) {
        due(what, got ? 1 : 0, want ? 1 : 0);
    }

    static void due(String what, int[] got, int[] want) {
        looked++;
        if (!Arrays.equals(got, want)) {
            wrong++;
            System.out.println(what + " gave " + Arrays.toString(got) + ", due is " + Arrays.toString(want));
        }
    }

    /** Bytes from numbers, texts and rows of bytes. */
    static int[] file(Object... parts) {
        int[] row = new int[4000];
        int size = 0;
        for (Object part : parts) {
            if (part instanceof String text) {
                for (int i = 0; i < text.length(); i++) {
                    row[size++] = text.charAt(i);
                }
            } else if (part instanceof int[] bytes) {
                System.arraycopy(bytes, 0, row, size, bytes.length);
                size += bytes.length;
            } else {
                row[size++] = (Integer) part;
            }
        }
        return Arrays.copyOf(row, size);
    }

    static int[] with(int[] file, int place, int b) {
        int[] other = file.clone();
        other[place] = b;
        return other;
    }

    static int[] without(int[] file, int lastBytes) {
        return Arrays.copyOf(file, file.length - lastBytes);
    }

    static int rgba(int red, int green, int blue, int alpha) {
        return red * 0x1000000 + green * 0x10000 + blue * 0x100 + alpha;
    }

    static int rgb(int red, int green, int blue) {
        return rgba(red, green, blue, 255);
    }

    static int grey(int value) {
        return rgb(value, value, value);
    }

    static FourPictureFiles picture(int width, int height, int... pixels) {
        FourPictureFiles x = new FourPictureFiles();
        due("make(" + width + ", " + height + ")", x.make(width, height), true);
        for (int i = 0; i < pixels.length; i++) {
            due("put of pixel " + i, x.put(i % width, i / width, pixels[i]), true);
        }
        return x;
    }

    static void feed(FourPictureFiles x, int[] file) {
        for (int b : file) {
            if (!x.feed(b)) {
                due("feed(" + b + ")", false, true);
            }
        }
    }

    static int[] bytesOf(FourPictureFiles x) {
        int[] bytes = new int[x.length()];
        for (int i = 0; i < bytes.length; i++) {
            bytes[i] = x.byteAt(i);
        }
        return bytes;
    }

    static int[] pixelsOf(FourPictureFiles x) {
        int[] pixels = new int[x.width() * x.height()];
        for (int i = 0; i < pixels.length; i++) {
            pixels[i] = x.pixel(i % x.width(), i / x.width());
        }
        return pixels;
    }

    static void duePicture(String what, FourPictureFiles x, int width, int height, int... pixels) {
        due(what + ": width", x.width(), width);
        due(what + ": height", x.height(), height);
        due(what + ": pixels", pixelsOf(x), pixels);
    }

    /** Reads the file, which must give this picture and leave the file alone. */
    static void dueRead(String what, int[] file, int format, int width, int height, int... pixels) {
        FourPictureFiles x = picture(2, 1, FILLER, FILLER);
        feed(x, file);
        due(what + ": sniff", x.sniff(), format);
        due(what + ": decode", x.decode(), format);
        duePicture(what, x, width, height, pixels);
        due(what + ": the file", bytesOf(x), file);
    }

    /** Reads the file, which must have this fault and change nothing. */
    static void dueFault(String what, int[] file, int fault) {
        FourPictureFiles x = picture(2, 1, FILLER, FILLER);
        feed(x, file);
        due(what + ": decode", x.decode(), fault);
        duePicture(what, x, 2, 1, FILLER, FILLER);
        due(what + ": the file", bytesOf(x), file);
    }

    static void dueBroken(String what, int[] file) {
        dueFault(what, file, FourPictureFiles.BROKEN);
    }

    static void dueShort(String what, int[] file) {
        dueFault(what, file, FourPictureFiles.SHORT);
    }

    /** Every beginning of the file with at least this many bytes is SHORT. */
    static void dueShortBeginnings(String what, int[] file, int least) {
        for (int n = least; n < file.length; n++) {
            dueShort(what + " cut to " + n, Arrays.copyOf(file, n));
        }
    }

    /** Writes the picture, which must give this file and leave the picture alone. */
    static void dueWritten(String what, FourPictureFiles x, int format, int how, int[] file) {
        int[] pixels = pixelsOf(x);
        int width = x.width();
        int height = x.height();
        due(what + ": encode", x.encode(format, how), file.length);
        due(what + ": length", x.length(), file.length);
        due(what + ": the file", bytesOf(x), file);
        duePicture(what, x, width, height, pixels);
    }

    /** Writing is refused and leaves picture and file alone. */
    static void dueRefused(String what, FourPictureFiles x, int format, int how) {
        int[] pixels = pixelsOf(x);
        int[] file = bytesOf(x);
        int width = x.width();
        int height = x.height();
        due(what + ": encode", x.encode(format, how), FourPictureFiles.UNKNOWN);
        due(what + ": the file", bytesOf(x), file);
        duePicture(what, x, width, height, pixels);
    }

    static void end() {
        System.out.println(looked + " answers, " + wrong + " of them not as due");
        if (wrong != 0) {
            System.exit(1);
        }
    }
}
