import java.util.Arrays;
import java.util.Random;

/** Files of many variants, right and spoilt ones, are read as by a second program. */
public final class SecondReadingTest {
    private static final int FILES = 60000;
    private static final int LEAST_SEEN = 300;
    private static final int[] EDGES = {0, 1, 2, 3, 7, 8, 9, 10, 31, 32, 48, 57, 63, 64, 127, 128, 191, 192, 253, 254,
            255};

    private static final Random RANDOM = new Random(20261116);
    /** How often each answer was due, for each format. */
    private static final int[][] SEEN = new int[4][3];

    public static void main(String[] args) {
        for (int i = 0; i < FILES; i++) {
            int format = i % 4;
            int[] file = switch (format) {
                case 0 -> chunks();
                case 1 -> samples();
                case 2 -> bitmap();
                default -> packets();
            };
            look(spoilt(i % 3 == 0 ? written(format) : file), format);
        }
        for (int[] seen : SEEN) {
            for (int times : seen) {
                Bench.due("each answer is seen often: " + Arrays.deepToString(SEEN), times >= LEAST_SEEN, true);
            }
        }
        Bench.end();
    }

    private static void look(int[] file, int format) {
        if (file.length > 400) {
            return;
        }
        SecondReader due = new SecondReader(file);
        String what = Arrays.toString(file);
        if (due.answer < 0) {
            Bench.dueFault(what, file, due.answer);
        } else {
            Bench.dueRead(what, file, due.answer, due.width, due.height, due.pixels);
        }
        if (due.answer == format || due.answer < FourPictureFiles.UNKNOWN) {
            SEEN[format][due.answer < 0 ? -1 - due.answer : 0]++;
        }
    }

    private static int upTo(int most) {
        return RANDOM.nextInt(most + 1);
    }

    private static boolean oneIn(int n) {
        return RANDOM.nextInt(n) == 0;
    }

    private static int side() {
        return oneIn(40) ? upTo(10) : 1 + upTo(oneIn(3) ? 7 : 3);
    }

    private static int anyByte() {
        return oneIn(2) ? EDGES[RANDOM.nextInt(EDGES.length)] : upTo(255);
    }

    private static int[] anyBytes(int n) {
        int[] bytes = new int[n];
        for (int i = 0; i < n; i++) {
            bytes[i] = anyByte();
        }
        return bytes;
    }

    private static int[] written(int format) {
        int width = side() % 8 + 1;
        int height = side() % 8 + 1;
        int[] pixels = RoundTripTest.randomPixels(width * height, RANDOM);
        return SecondWriter.write(width, height, pixels, format, upTo(1));
    }

    /** The file as it is, or with some bytes altered, cut off or added. */
    private static int[] spoilt(int[] file) {
        int[] other = file.clone();
        if (oneIn(3) && file.length > 0) {
            int most = oneIn(2) ? file.length : Math.min(file.length, 60);
            other[RANDOM.nextInt(most)] = anyByte();
        }
        if (oneIn(5)) {
            other = Arrays.copyOf(other, upTo(other.length));
        }
        return oneIn(8) ? Bench.file(other, anyBytes(1 + upTo(2))) : other;
    }

    private static int[] chunks() {
        int width = side();
        int height = side();
        int[] file = Bench.file("qoif", Bench.big(width), Bench.big(height), 3 + upTo(1), upTo(1));
        int missing = width * height;
        while (missing > 0) {
            int kind = upTo(5);
            int n = Math.min(1 + upTo(61), missing + (oneIn(20) ? 1 : 0));
            switch (kind) {
                case 0 -> file = Bench.file(file, 255, anyBytes(4));
                case 1 -> file = Bench.file(file, 254, anyBytes(3));
                case 2 -> file = Bench.file(file, upTo(63));
                case 3 -> file = Bench.file(file, 64 + upTo(63));
                case 4 -> file = Bench.file(file, 128 + upTo(63), anyByte());
                default -> file = Bench.file(file, 191 + Math.min(n, 62));
            }
            missing -= kind == 5 ? n : 1;
        }
        return Bench.file(file, new int[7], 1);
    }

    private static String blanks() {
        String[] some = {" ", "\n", "\t", "\r", "  ", "#\n", "#x 1\n", " #\r\n ", "#a#\n#b\n"};
        return oneIn(60) ? "" : some[RANDOM.nextInt(oneIn(3) ? some.length : 2)];
    }

    private static String number(int value) {
        return blanks() + "0".repeat(oneIn(4) ? upTo(2) : 0) + value;
    }

    private static int[] samples() {
        int kind = "2356".charAt(upTo(3));
        int width = side();
        int height = side();
        int greatest = oneIn(20) ? upTo(300) : oneIn(2) ? 255 : 1 + upTo(254);
        int[] file = Bench.file("P", kind, number(width), number(height), number(greatest));
        int count = width * height * (kind == '2' || kind == '5' ? 1 : 3);
        int most = Math.min(255, greatest) + (oneIn(10) ? 1 : 0);
        file = Bench.file(file, kind < '4' ? "" : " ");
        for (int i = 0; i < count; i++) {
            int value = upTo(most);
            file = kind < '4' ? Bench.file(file, number(value)) : Bench.file(file, Math.min(value, 255));
        }
        return kind < '4' && oneIn(3) ? Bench.file(file, blanks(), blanks()) : file;
    }

    private static int[] bitmap() {
        int width = side();
        int height = side();
        boolean down = oneIn(3);
        int depth = oneIn(3) ? 24 : 8;
        int packing = depth == 8 && (!down || oneIn(10)) ? upTo(1) : 0;
        int colours = depth == 24 ? 0 : 1 + upTo(oneIn(8) ? 63 : 3);
        int gap = oneIn(4) ? upTo(5) - 1 : 0;
        int[] head = Bench.file("BM", anyBytes(8), Bench.little(54 + 4 * colours + gap), Bench.little(40),
                Bench.little(width), Bench.little(down ? -height : height), 1, 0, depth, 0, Bench.little(packing),
                anyBytes(12), Bench.little(colours), anyBytes(4), anyBytes(4 * colours), anyBytes(Math.max(gap, 0)));
        if (packing == 1) {
            return Bench.file(head, codes(width, height, colours));
        }
        int row = (width * depth / 8 + 3) / 4 * 4;
        int[] bytes = anyBytes(row * height);
        for (int i = 0; depth == 8 && i < bytes.length; i++) {
            bytes[i] = i % row < width && !oneIn(200) ? bytes[i] % colours : bytes[i];
        }
        return Bench.file(head, bytes);
    }

    private static int[] codes(int width, int height, int colours) {
        int[] codes = new int[0];
        int x = 0;
        int up = 0;
        for (int k = upTo(20); k > 0; k--) {
            int room = up < height ? width - x + (oneIn(30) ? 1 : 0) : 0;
            int c = upTo(oneIn(30) ? colours : colours - 1);
            int kind = upTo(3);
            if (kind == 0 && up < height + (oneIn(20) ? 1 : 0)) {
                codes = Bench.file(codes, 0, 0);
                x = 0;
                up++;
            } else if (kind == 1) {
                int right = upTo(Math.max(0, width - x)) + (oneIn(30) ? 1 : 0);
                int more = upTo(Math.max(0, Math.min(1, height - up))) + (oneIn(30) ? 1 : 0);
                codes = Bench.file(codes, 0, 2, right, more);
                x += right;
                up += more;
            } else if (kind == 2 && room > 2) {
                int n = 3 + upTo(room - 3);
                int[] numbers = anyBytes(n + n % 2);
                for (int i = 0; i < n; i++) {
                    numbers[i] = oneIn(100) ? numbers[i] : numbers[i] % colours;
                }
                codes = Bench.file(codes, 0, n, numbers);
                x += n;
            } else if (room > 0) {
                int n = 1 + upTo(room - 1);
                codes = Bench.file(codes, n, c);
                x += n;
            }
        }
        return Bench.file(codes, 0, 1);
    }

    private static int[] packets() {
        int kind = Bench.row(2, 3, 10, 11)[upTo(3)];
        int depth = kind % 8 == 3 ? 8 : oneIn(2) ? 24 : 32;
        int width = side();
        int height = side();
        int passed = oneIn(3) ? upTo(6) : 0;
        int flags = 16 * upTo(3) + (depth == 32 ? 8 : 0);
        int[] file = Bench.file(passed, 0, kind, anyBytes(9), width, 0, height, 0, depth, flags, anyBytes(passed));
        int missing = width * height;
        if (kind < 10) {
            return Bench.file(file, anyBytes(missing * depth / 8));
        }
        while (missing > 0) {
            int n = 1 + upTo(Math.min(missing, 8) - (oneIn(30) ? 0 : 1));
            boolean same = oneIn(2);
            file = Bench.file(file, same ? 127 + n : n - 1, anyBytes((same ? 1 : n) * depth / 8));
            missing -= n;
        }
        return file;
    }
}
