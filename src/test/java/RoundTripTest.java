import java.util.Random;

/** What is written is read again; spoilt files are refused without harm, whatever they hold. */
public final class RoundTripTest {
    private static final int PICTURES = 1500;
    private static final int SPOILT = 40;

    public static void main(String[] args) {
        Random random = new Random(20261115);
        for (int i = 0; i < PICTURES; i++) {
            FourPictureFiles x = randomPicture(random);
            for (int format = 0; format < 4; format++) {
                for (int how = 0; how < 2; how++) {
                    roundTrip(x, format, how, random);
                }
            }
        }
        Bench.end();
    }

    private static FourPictureFiles randomPicture(Random random) {
        FourPictureFiles x = new FourPictureFiles();
        x.make(1 + random.nextInt(8), 1 + random.nextInt(8));
        int[] palette = new int[1 + random.nextInt(12)];
        for (int k = 0; k < palette.length; k++) {
            palette[k] = random.nextBoolean() ? random.nextInt() : 0x10101010 * random.nextInt(4) + random.nextInt(3);
        }
        int sameness = random.nextInt(4);
        int pixel = palette[0];
        for (int y = 0; y < x.height(); y++) {
            for (int column = 0; column < x.width(); column++) {
                if (random.nextInt(4) >= sameness) {
                    pixel = random.nextInt(3) == 0 ? pixel + 0x01000100 : palette[random.nextInt(palette.length)];
                }
                x.put(column, y, pixel);
            }
        }
        if (random.nextInt(3) == 0) {
            x.change(3);
        }
        if (random.nextInt(3) != 0) {
            x.change(4);
        }
        return x;
    }

    private static boolean isOpaque(int[] pixels) {
        for (int pixel : pixels) {
            if ((pixel & 255) != 255) {
                return false;
            }
        }
        return true;
    }

    private static void roundTrip(FourPictureFiles x, int format, int how, Random random) {
        int[] pixels = Bench.pixelsOf(x);
        if (!isOpaque(pixels) && (format == 1 || format == 2)) {
            Bench.dueRefused("not opaque", x, format, how);
            return;
        }
        int length = x.encode(format, how);
        Bench.due("length()", x.length(), length);
        Bench.due("sniff()", x.sniff(), format);
        int[] file = Bench.bytesOf(x);
        FourPictureFiles other = new FourPictureFiles();
        Bench.feed(other, file);
        Bench.due("decode()", other.decode(), format);
        Bench.duePicture("read again", other, x.width(), x.height(), pixels);
        other.encode(format, how);
        Bench.due("written again", Bench.bytesOf(other), file);
        for (int k = 0; k < SPOILT / 8; k++) {
            spoil(other, file, random);
        }
    }

    /** One byte is another one: reading ends, and a fault changes nothing. */
    private static void spoil(FourPictureFiles x, int[] file, Random random) {
        int place = random.nextInt(random.nextBoolean() ? file.length : Math.min(file.length, 60));
        int[] pixels = Bench.pixelsOf(x);
        int width = x.width();
        int height = x.height();
        x.alter(place, random.nextInt(256));
        if (random.nextInt(4) == 0) {
            x.cut(random.nextInt(file.length));
        }
        int[] spoilt = Bench.bytesOf(x);
        int format = x.sniff();
        int answer = x.decode();
        Bench.due("the file after decode()", Bench.bytesOf(x), spoilt);
        if (answer < 0) {
            Bench.due("UNKNOWN", answer == FourPictureFiles.UNKNOWN, format == FourPictureFiles.UNKNOWN);
            Bench.duePicture("after a fault", x, width, height, pixels);
        } else {
            Bench.due("the format", answer, format);
        }
        x.cut(0);
        Bench.feed(x, file);
    }
}
