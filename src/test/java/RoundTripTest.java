import java.util.Random;

/** Pictures of all kinds are written as by a second program, and read again. */
public final class RoundTripTest {
    private static final int PICTURES = 1500;

    public static void main(String[] args) {
        Random random = new Random(20261115);
        for (int i = 0; i < PICTURES; i++) {
            int width = 1 + random.nextInt(8);
            int height = 1 + random.nextInt(8);
            int[] pixels = randomPixels(width * height, random);
            for (int format = 0; format < 4; format++) {
                for (int how = 0; how < 2; how++) {
                    roundTrip(width, height, pixels, format, how);
                }
            }
        }
        Bench.end();
    }

    /** Few colours, pieces of one colour, small differences; often opaque, and often grey. */
    static int[] randomPixels(int count, Random random) {
        int[] palette = new int[1 + random.nextInt(12)];
        for (int k = 0; k < palette.length; k++) {
            palette[k] = random.nextBoolean() ? random.nextInt() : 0x10101010 * random.nextInt(4) + random.nextInt(3);
        }
        boolean grey = random.nextInt(3) == 0;
        boolean opaque = random.nextInt(3) != 0;
        int sameness = random.nextInt(4);
        int[] pixels = new int[count];
        int pixel = palette[0];
        for (int i = 0; i < count; i++) {
            if (random.nextInt(4) >= sameness) {
                pixel = random.nextInt(3) == 0 ? pixel + 0x01000100 : palette[random.nextInt(palette.length)];
            }
            int value = pixel >>> 24;
            pixels[i] = (grey ? Bench.rgba(value, value, value, pixel & 255) : pixel) | (opaque ? 255 : 0);
        }
        return pixels;
    }

    private static void roundTrip(int width, int height, int[] pixels, int format, int how) {
        Story drawn = Bench.drawn(width, height, pixels);
        int[] file = SecondWriter.write(width, height, pixels, format, how);
        if (file.length == 0) {
            Bench.dueNotWritten("not opaque", drawn, format, how);
            return;
        }
        Bench.dueWritten("written", drawn, format, how, file);
        Story read = drawn.and(x -> x.encode(format, how), file.length).and(x -> x.make(1, 1))
                .and(Subject::decode, format);
        Bench.dueState("read again", read, width, height, pixels, file);
    }
}
