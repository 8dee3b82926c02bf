import java.util.Arrays;

/** Format 2, read and written. */
public final class BitmapFormatTest {
    private static final int A = Bench.rgb(3, 2, 1);
    private static final int B = Bench.rgb(6, 5, 4);
    private static final int C = Bench.rgb(9, 8, 7);
    private static final int[] COLOURS = {1, 2, 3, 200, 4, 5, 6, 201, 7, 8, 9, 202};
    private static final int[] GOOD = Bench.file(head(54, 1, 1, 24, 0, 0), 1, 2, 3, 0);

    public static void main(String[] args) {
        Bench.run(BitmapFormatTest.class);
    }

    /** A header of 54 bytes with other bytes where nothing is said of them. */
    private static int[] head(int beginning, int width, int height, int depth, int packing, int colours) {
        return Bench.file("BM", 11, 12, 13, 14, 15, 16, 17, 18, Bench.little(beginning), Bench.little(40),
                Bench.little(width), Bench.little(height), 1, 0, depth, 0, Bench.little(packing),
                21, 22, 23, 24, 25, 26, 27, 28, 29, 30, 31, 32, Bench.little(colours), 41, 42, 43, 44);
    }

    private static int[] numbers(int width, int height, int... rows) {
        return Bench.file(head(66, width, height, 8, 0, 3), COLOURS, rows);
    }

    private static int[] packed(int width, int height, int... codes) {
        return Bench.file(head(66, width, height, 8, 1, 3), COLOURS, codes);
    }

    private static int[] writtenHead(int length, int width, int height, int depth, int packing, int colours) {
        return Bench.file("BM", Bench.little(length), 0, 0, 0, 0, Bench.little(54 + 4 * colours), Bench.little(40),
                Bench.little(width), Bench.little(height), 1, 0, depth, 0, Bench.little(packing), new int[12],
                Bench.little(colours), new int[4]);
    }

    private static void dueRead(String what, int[] file, int width, int height, int... pixels) {
        Bench.dueRead(what, file, 2, width, height, pixels);
    }

    /** Another number of so many bytes at this place of the good file is BROKEN, as soon as its last byte was read. */
    private static void dueBrokenNumber(int place, int size, int... values) {
        for (int value : values) {
            int[] bytes = Arrays.copyOf(Bench.little(value), size);
            Bench.dueBroken(value + " at " + place, Bench.with(GOOD, place, bytes));
            Bench.dueBrokenAtLast(value + " at " + place + ", then nothing",
                    Arrays.copyOf(Bench.with(GOOD, place, bytes), place + size));
        }
    }

    @Holds("FORMAT 2. The two bytes; 8 bytes; LITTLE 4 the BEGINNING;")
    static void beginning() {
        dueRead("as it should be", GOOD, 1, 1, A);
        Bench.dueShortBeginnings("as it should be", GOOD, 2);
        for (int k = 2; k < 10; k++) {
            dueRead("byte " + k + " is 255", Bench.with(GOOD, k, 255), 1, 1, A);
        }
        dueRead("54", Bench.with(GOOD, 10, Bench.little(54)), 1, 1, A);
        Bench.dueBroken("54, the highest byte first", Bench.with(GOOD, 10, Bench.big(54)));
        dueRead("55", Bench.file(Bench.with(GOOD, 10, Bench.little(55)), 9), 1, 1, Bench.rgb(0, 3, 2));
        int[] late = Bench.file(head(256, 1, 1, 24, 0, 0), new int[202], 1, 2, 3, 0);
        dueRead("256", late, 1, 1, A);
    }

    @Holds("LITTLE 4, 40;")
    static void forty() {
        dueBrokenNumber(14, 4, 39, 41, 0, -40, 40 + 256, 40 + 65536, 40 + (1 << 24), 40 << 8, 40 << 24, 108, 124, 12,
                Integer.MIN_VALUE + 40);
        dueRead("40", Bench.with(GOOD, 14, 40, 0, 0, 0), 1, 1, A);
    }

    @Holds("LITTLE 4 the width;")
    static void width() {
        dueBrokenNumber(18, 4, 0, 9, 10, 255, 256, 257, 1 + 65536, 1 + (1 << 24), -1, -8, Integer.MIN_VALUE,
                Integer.MIN_VALUE + 1, Integer.MAX_VALUE);
        for (int width = 1; width <= 8; width++) {
            dueRead("width " + width, Bench.file(head(54, width, 1, 24, 0, 0), new int[24]), width, 1,
                    Bench.filled(width, Bench.BLACK));
        }
    }

    @Holds("LITTLE 4 the height, as an int: above 0 rows stand from the lowest up, below 0 from the top down, and it is "
            + "less 0 the height;")
    static void height() {
        dueBrokenNumber(22, 4, 0, 9, 10, -9, -10, 255, 256, 257, -256, -257, 1 + 65536, 1 + (1 << 24),
                Integer.MIN_VALUE, Integer.MIN_VALUE + 1, Integer.MAX_VALUE, Integer.MIN_VALUE + 8);
        for (int height = 1; height <= 8; height++) {
            int[] rows = new int[4 * height];
            int[] pixels = new int[height];
            int[] turned = new int[height];
            for (int k = 0; k < height; k++) {
                rows[4 * k] = k + 1;
                pixels[height - 1 - k] = Bench.rgb(0, 0, k + 1);
                turned[k] = Bench.rgb(0, 0, k + 1);
            }
            dueRead("height " + height, Bench.file(head(54, 1, height, 24, 0, 0), rows), 1, height, pixels);
            dueRead("height -" + height, Bench.file(head(54, 1, -height, 24, 0, 0), rows), 1, height, turned);
            int[] numbers = new int[4 * height];
            numbers[0] = 1;
            dueRead("numbers, height " + height, numbers(1, height, numbers), 1, height,
                    Bench.with(Bench.filled(height, A), height - 1, B));
            dueRead("numbers, height -" + height, numbers(1, -height, numbers), 1, height,
                    Bench.with(Bench.filled(height, A), 0, B));
        }
        Bench.dueBroken("numbers, height 0", numbers(1, 0, 0, 0, 0, 0));
        Bench.dueBroken("numbers, height -9", numbers(1, -9, new int[40]));
    }

    @Holds("LITTLE 2, 1;")
    static void one() {
        dueBrokenNumber(26, 2, 0, 2, 255, 256, 257, 0x8001, 0xFFFF);
        dueRead("1", Bench.with(GOOD, 26, 1, 0), 1, 1, A);
    }

    @Holds("LITTLE 2 the depth, 8 or 24;")
    static void depth() {
        dueBrokenNumber(28, 2, 0, 1, 4, 7, 9, 16, 23, 25, 32, 24 + 256, 8 + 256, 8 << 8, 24 << 8, 0x8018, 0xFFFF);
        dueRead("24", GOOD, 1, 1, A);
        dueRead("8", numbers(1, 1, 2, 0, 0, 0), 1, 1, C);
    }

    @Holds("LITTLE 4 the PACKING, 0, or 1 with depth 8 and a height above 0; 12 bytes;")
    static void packing() {
        dueBrokenNumber(30, 4, 1, 2, 3, -1, 256, 65536, 1 << 24, Integer.MIN_VALUE);
        dueRead("0 with depth 24", GOOD, 1, 1, A);
        dueRead("0 with depth 24 and a height below 0", Bench.file(head(54, 1, -1, 24, 0, 0), 1, 2, 3, 0), 1, 1, A);
        dueRead("0 with depth 8", numbers(1, 1, 1, 0, 0, 0), 1, 1, B);
        dueRead("0 with depth 8 and a height below 0", numbers(1, -1, 1, 0, 0, 0), 1, 1, B);
        dueRead("1 with depth 8", packed(1, 1, 1, 1, 0, 1), 1, 1, B);
        dueRead("1 with depth 8 and height 8", packed(1, 8, 0, 1), 1, 8, Bench.filled(8, A));
        for (int height = 1; height <= 8; height += 7) {
            int[] broken = packed(1, -height, 1, 1, 0, 1);
            Bench.dueBroken("1 with height -" + height, broken);
            Bench.dueBrokenAtLast("1 with height -" + height + ", then nothing", Arrays.copyOf(broken, 34));
        }
        int[] wrong = {2, 3, 257, 65537, -1, 1 << 24};
        for (int packing : wrong) {
            Bench.dueBroken(packing + " with depth 8", Bench.file(head(66, 1, 1, 8, packing, 3), COLOURS, 1, 1, 0, 1));
        }
        Bench.dueBroken("1 with depth 24", Bench.file(head(54, 1, 1, 24, 1, 0), 0, 1));
        for (int k = 34; k < 46; k++) {
            dueRead("byte " + k + " is 255", Bench.with(GOOD, k, 255), 1, 1, A);
            Bench.dueShort("byte " + k + " is missing", Arrays.copyOf(GOOD, k));
        }
    }

    @Holds("LITTLE 4 the number of COLOURS, 1 .. 64 with depth 8, 0 with depth 24;")
    static void numberOfColours() {
        dueBrokenNumber(46, 4, 1, 2, 64, 256, 65536, 1 << 24, -1);
        int[] wrong = {0, 65, 66, 256, 257, 1 + 65536, 1 + (1 << 24), -1, -64, Integer.MIN_VALUE,
                Integer.MIN_VALUE + 1};
        for (int colours : wrong) {
            for (int packing = 0; packing < 2; packing++) {
                int[] file = Bench.file(head(318, 1, 1, 8, packing, colours), new int[260], new int[16]);
                Bench.dueBroken(colours + " colours", file);
                Bench.dueBrokenAtLast(colours + " colours, then nothing", Arrays.copyOf(file, 50));
            }
        }
        int[] right = {1, 2, 63, 64};
        for (int colours : right) {
            int[] all = Bench.with(new int[4 * colours], 4 * colours - 4, 1, 2, 3, 0);
            int[] file = Bench.file(head(54 + 4 * colours, 1, 1, 8, 0, colours), all, colours - 1, 0, 0, 0);
            dueRead(colours + " colours", file, 1, 1, A);
            dueRead(colours + " colours, packed", Bench.file(head(54 + 4 * colours, 1, 1, 8, 1, colours), all,
                    1, colours - 1, 0, 1), 1, 1, A);
        }
        dueRead("0 with depth 24", GOOD, 1, 1, A);
    }

    @Holds("4 bytes; for each colour B, G, R and a byte.")
    static void colours() {
        for (int k = 50; k < 54; k++) {
            dueRead("byte " + k + " is 255", Bench.with(GOOD, k, 255), 1, 1, A);
            Bench.dueShort("byte " + k + " is missing", Arrays.copyOf(GOOD, k));
        }
        int[] file = numbers(3, 1, 0, 1, 2, 0);
        dueRead("three colours", file, 3, 1, A, B, C);
        for (int k = 54; k < 66; k++) {
            Bench.dueShort("byte " + k + " is missing", Arrays.copyOf(file, k));
        }
        for (int k = 57; k < 66; k += 4) {
            dueRead("the fourth byte of a colour is 0", Bench.with(file, k, 0), 3, 1, A, B, C);
            dueRead("the fourth byte of a colour is 255", Bench.with(file, k, 255), 3, 1, A, B, C);
        }
    }

    @Holds("The beginning is at least the place behind these, and at most 800 (looked at here);")
    static void beginningBounds() {
        int[] wrong = {53, 0, -1, 801, 802, 54 + 65536, 54 + (1 << 24), Integer.MIN_VALUE, Integer.MIN_VALUE + 54,
            Integer.MAX_VALUE};
        for (int beginning : wrong) {
            Bench.dueBroken("beginning " + beginning, Bench.with(GOOD, 10, Bench.little(beginning)));
            Bench.dueBrokenAtLast("beginning " + beginning + ", then nothing",
                    Bench.without(Bench.with(GOOD, 10, Bench.little(beginning)), 4));
        }
        dueRead("54 with no colours", GOOD, 1, 1, A);
        dueRead("55 with no colours", Bench.file(head(55, 1, 1, 24, 0, 0), 9, 1, 2, 3, 0), 1, 1, A);
        int[] colours = {1, 2, 3, 64};
        for (int n : colours) {
            int[] all = Bench.with(new int[4 * n], 0, 1, 2, 3, 0);
            int behind = 54 + 4 * n;
            int[] early = Bench.file(head(behind - 1, 1, 1, 8, 0, n), all, 0, 0, 0, 0);
            Bench.dueBroken("a byte before the end of " + n + " colours", early);
            Bench.dueBrokenAtLast("a byte before the end of " + n + " colours, then nothing",
                    Arrays.copyOf(early, behind));
            dueRead("behind " + n + " colours", Bench.with(early, 10, Bench.little(behind)), 1, 1, A);
            dueRead("a byte behind " + n + " colours",
                    Bench.file(head(behind + 1, 1, 1, 8, 0, n), all, 99, 0, 0, 0, 0), 1, 1, A);
        }
        int[] none = {1, 2, 3, 0};
        dueRead("796, and all is there", Bench.longFile(head(796, 1, 1, 24, 0, 0), 800, none), 1, 1, A);
        for (int beginning = 797; beginning <= 800; beginning++) {
            Bench.dueShort(beginning + ", and the file ends",
                    Bench.longFile(head(beginning, 1, 1, 24, 0, 0), 800, none));
        }
        Bench.dueBroken("801, and the file ends", Bench.longFile(head(801, 1, 1, 24, 0, 0), 800, none));
        Bench.dueShort("800 in a short file", head(800, 1, 1, 24, 0, 0));
        Bench.dueBroken("801 in a short file", head(801, 1, 1, 24, 0, 0));
        int[] last = Bench.file(Bench.longFile(Bench.file(head(798, 1, 1, 8, 1, 3), COLOURS), 798, new int[0]), 0, 1);
        dueRead("798, and the picture is complete at 800", last, 1, 1, A);
    }

    @Holds("bytes up to it are passed over.")
    static void passedOver() {
        for (int n = 0; n <= 20; n++) {
            int[] file = Bench.file(head(54 + n, 1, 1, 24, 0, 0), Bench.filled(n, 66), 1, 2, 3, 0);
            dueRead(n + " bytes", file, 1, 1, A);
            Bench.dueShortBeginnings(n + " bytes", file, 54);
            int[] numbers = Bench.file(head(66 + n, 1, 1, 8, 0, 3), COLOURS, Bench.filled(n, 0), 2, 0, 0, 0);
            dueRead(n + " bytes behind the colours", numbers, 1, 1, C);
            int[] packed = Bench.file(head(66 + n, 1, 1, 8, 1, 3), COLOURS, Bench.filled(n, 0), 1, 2, 0, 1);
            dueRead(n + " bytes before the packed rows", packed, 1, 1, C);
        }
    }

    @Holds("Then, row by row as said: depth 24: B G R for each pixel, then bytes until the row has a multiple of four.")
    static void wholePixels() {
        for (int width = 1; width <= 8; width++) {
            int[] row = new int[3 * width];
            int[] pixels = new int[2 * width];
            for (int x = 0; x < width; x++) {
                row = Bench.with(row, 3 * x, 3 * x + 1, 3 * x + 2, 3 * x + 3);
                pixels[x] = C;
                pixels[width + x] = Bench.rgb(3 * x + 3, 3 * x + 2, 3 * x + 1);
            }
            int[] upper = new int[0];
            for (int x = 0; x < width; x++) {
                upper = Bench.file(upper, 7, 8, 9);
            }
            int[] rest = Bench.filled((4 - 3 * width % 4) % 4, 99);
            int[] file = Bench.file(head(54, width, 2, 24, 0, 0), row, rest, upper, rest);
            dueRead("width " + width, file, width, 2, pixels);
            Bench.dueShortBeginnings("width " + width, file, 54);
        }
        dueRead("upward", Bench.file(head(54, 1, 2, 24, 0, 0), 4, 5, 6, 99, 1, 2, 3, 99), 1, 2, A, B);
        dueRead("downward", Bench.file(head(54, 1, -2, 24, 0, 0), 4, 5, 6, 99, 1, 2, 3, 99), 1, 2, B, A);
    }

    @Holds("Depth 8, packing 0: a byte for each pixel, the number of a colour (there is one with it), then likewise.")
    static void numbersOfColours() {
        for (int width = 1; width <= 8; width++) {
            int[] rest = Bench.filled((4 - width % 4) % 4, 99);
            int[] lower = Bench.with(Bench.filled(width, 1), 0, 2);
            int[] file = numbers(width, 2, Bench.file(lower, rest, Bench.filled(width, 0), rest));
            int[] pixels = Bench.file(Bench.filled(width, A), C, Bench.filled(width - 1, B));
            dueRead("width " + width, file, width, 2, pixels);
            Bench.dueShortBeginnings("width " + width, file, 66);
            for (int k = 0; k < width; k++) {
                Bench.dueBroken("no such colour at " + k, Bench.with(file, 66 + k, 3));
                Bench.dueBrokenAtLast("no such colour at " + k + ", then nothing",
                        Arrays.copyOf(Bench.with(file, 66 + k, 3), 67 + k));
            }
        }
        for (int number = 0; number < 256; number++) {
            int[] file = numbers(1, 1, number, 0, 0, 0);
            if (number < 3) {
                dueRead("colour " + number, file, 1, 1, Bench.row(A, B, C)[number]);
            } else {
                Bench.dueBroken("colour " + number, file);
            }
        }
        int[] most = Bench.file(head(310, 1, 1, 8, 0, 64), new int[252], 1, 2, 3, 0, 63, 0, 0, 0);
        dueRead("63 of 64", most, 1, 1, A);
        Bench.dueBroken("64 of 64", Bench.with(most, 310, 64));
        int[] one = Bench.file(head(58, 1, 1, 8, 0, 1), 1, 2, 3, 0, 0, 0, 0, 0);
        dueRead("0 of 1", one, 1, 1, A);
        Bench.dueBroken("1 of 1", Bench.with(one, 58, 1));
        dueRead("downward", numbers(3, -2, 0, 1, 2, 99, 2, 2, 0, 99), 3, 2, A, B, C, C, C, A);
    }

    @Holds("Packing 1: rows are at first colour 0; one stands at column 0 of the lowest row;")
    static void packedAtFirst() {
        dueRead("complete at once", packed(2, 2, 0, 1), 2, 2, A, A, A, A);
        dueRead("the greatest, complete at once", packed(8, 8, 0, 1), 8, 8, Bench.filled(64, A));
        dueRead("one pixel", packed(2, 2, 1, 1, 0, 1), 2, 2, A, A, B, A);
        dueRead("one pixel of the greatest", packed(8, 8, 1, 1, 0, 1), 8, 8, Bench.with(Bench.filled(64, A), 56, B));
        int[] other = Bench.with(packed(2, 1, 1, 1, 0, 1), 54, 7, 8, 9);
        dueRead("colour 0 is another one", other, 2, 1, B, C);
        Story twice = Bench.fed(packed(2, 2, 1, 1, 0, 0, 1, 2, 0, 1)).and(Subject::decode, 2).and(Subject::decode, 2);
        Bench.dueState("at first for each reading", twice, 2, 2, Bench.row(C, A, B, A),
                packed(2, 2, 1, 1, 0, 0, 1, 2, 0, 1));
    }

    @Holds("two bytes n, c: n above 0: the next n pixels of the row get colour c;")
    static void pieces() {
        for (int n = 1; n <= 8; n++) {
            dueRead("a piece of " + n, packed(8, 1, n, 1, 0, 1), 8, 1,
                    Bench.with(Bench.filled(8, A), 0, Bench.filled(n, B)));
        }
        for (int n = 1; n <= 7; n++) {
            int[] lower = Bench.file(Bench.filled(8 - n, C), Bench.filled(n, B));
            dueRead("a piece of " + n + " behind another one", packed(8, 2, 8 - n, 2, n, 1, 0, 1), 8, 2,
                    Bench.file(Bench.filled(8, A), lower));
        }
        int[] pairs = packed(3, 2, 2, 1, 1, 2, 0, 0, 3, 1, 0, 1);
        dueRead("two rows", pairs, 3, 2, B, B, B, B, B, C);
        Bench.dueShortBeginnings("two rows", pairs, 66);
        Bench.dueShort("n without c", packed(1, 1, 1));
        Bench.dueShort("n too great without c", packed(1, 1, 2));
        Bench.dueShort("no end behind the last pixel", packed(1, 1, 1, 1));
        dueRead("n = 1 and c = 0 is a pixel", packed(1, 1, 1, 0, 0, 1), 1, 1, A);
        dueRead("n = 1 and c = 1 is a pixel", packed(2, 1, 1, 1, 1, 1, 0, 1), 2, 1, B, B);
        dueRead("n = 1 and c = 2 is a pixel", packed(2, 1, 1, 2, 1, 1, 0, 1), 2, 1, C, B);
    }

    @Holds("n = 0 and c = 0: at column 0 of the next row up;")
    static void nextRow() {
        dueRead("behind a whole row", packed(2, 2, 2, 1, 0, 0, 2, 2, 0, 1), 2, 2, C, C, B, B);
        dueRead("behind a part of a row", packed(2, 2, 1, 1, 0, 0, 1, 2, 0, 1), 2, 2, C, A, B, A);
        dueRead("behind an empty row", packed(2, 2, 0, 0, 1, 2, 0, 1), 2, 2, C, A, A, A);
        for (int height = 1; height <= 8; height++) {
            int[] rows = new int[2 * height];
            dueRead("above the top of " + height, packed(1, height, Bench.file(rows, 0, 1)), 1, height,
                    Bench.filled(height, A));
            Bench.dueBroken("two above the top of " + height, packed(1, height, Bench.file(rows, 0, 0, 0, 1)));
            Bench.dueBrokenAtLast("two above the top of " + height + ", then nothing",
                    packed(1, height, Bench.file(rows, 0, 0)));
            int[] toTop = new int[2 * height - 2];
            dueRead("at the top of " + height, packed(1, height, Bench.file(toTop, 1, 1, 0, 1)), 1, height,
                    Bench.with(Bench.filled(height, A), 0, B));
            Bench.dueBroken("a pixel above the top of " + height, packed(1, height, Bench.file(rows, 1, 1, 0, 1)));
        }
    }

    @Holds("c = 1: the picture is complete;")
    static void complete() {
        dueRead("at once", packed(1, 1, 0, 1), 1, 1, A);
        dueRead("in a row", packed(3, 2, 1, 2, 0, 1), 3, 2, A, A, A, C, A, A);
        dueRead("behind a row", packed(3, 1, 3, 2, 0, 1), 3, 1, C, C, C);
        dueRead("above the top", packed(3, 1, 3, 2, 0, 0, 0, 1), 3, 1, C, C, C);
        dueRead("pixels behind it", packed(1, 1, 0, 1, 1, 2, 9, 9), 1, 1, A);
        Bench.dueShort("no end", packed(1, 1, 1, 1));
        Bench.dueShort("half an end", packed(1, 1, 1, 1, 0));
        Bench.dueShort("no codes at all", packed(1, 1));
    }

    @Holds("c = 2: two bytes i, j (looked at when both were read): i columns to the right and j rows up;")
    static void moves() {
        int[] move = packed(3, 3, 0, 2, 1, 1, 1, 1, 0, 2, 0, 1, 1, 2, 0, 1);
        dueRead("moves", move, 3, 3, A, A, C, A, B, A, A, A, A);
        Bench.dueShortBeginnings("moves", move, 66);
        dueRead("no move", packed(2, 1, 0, 2, 0, 0, 1, 1, 0, 1), 2, 1, B, A);
        dueRead("behind a piece", packed(4, 1, 1, 1, 0, 2, 1, 0, 1, 2, 0, 1), 4, 1, B, A, C, A);
        dueRead("to the last pixel of the greatest", packed(8, 8, 0, 2, 7, 7, 1, 1, 0, 1), 8, 8,
                Bench.with(Bench.filled(64, A), 7, B));
        dueRead("the next row begins at column 0", packed(3, 2, 0, 2, 2, 0, 0, 0, 1, 1, 0, 1), 3, 2, B, A, A, A, A, A);
        Bench.dueShort("i too great, and no j", packed(2, 2, 0, 2, 3));
        Bench.dueShort("i 255, and no j", packed(2, 2, 0, 2, 255));
        Bench.dueBroken("i too great, and j", packed(2, 2, 0, 2, 3, 0));
        Bench.dueBroken("j too great", packed(2, 2, 0, 2, 0, 3));
        int[] idle = new int[300];
        for (int k = 1; k < 300; k += 4) {
            idle[k] = 2;
        }
        dueRead("many moves that go nowhere", packed(1, 1, Bench.file(idle, 0, 1)), 1, 1, A);
    }

    @Holds("c above 2: c bytes, one colour for each of the next c pixels, and one byte more if c is odd.")
    static void singleColours() {
        for (int c = 3; c <= 8; c++) {
            int[] bytes = new int[c + c % 2];
            int[] pixels = Bench.filled(8, A);
            for (int k = 0; k < c; k++) {
                bytes[k] = (k + 1) % 3;
                pixels[k] = Bench.row(A, B, C)[(k + 1) % 3];
            }
            int[] file = packed(8, 1, Bench.file(0, c, bytes, 0, 1));
            dueRead(c + " bytes", file, 8, 1, pixels);
            Bench.dueShortBeginnings(c + " bytes", file, 66);
            if (c % 2 == 1) {
                dueRead("the odd byte is anything", Bench.with(file, 68 + c, 255), 8, 1, pixels);
                Bench.dueShort("the odd byte is missing", Arrays.copyOf(file, 68 + c));
            }
            if (c < 8) {
                dueRead("pixels behind them", packed(8, 1, Bench.file(0, c, bytes, 1, 2, 0, 1)), 8, 1,
                        Bench.with(pixels, c, C));
            }
        }
    }

    @Holds("A pixel outside of the picture,")
    static void pixelOutside() {
        for (int width = 1; width <= 8; width++) {
            dueRead("as wide as " + width, packed(width, 1, width, 1, 0, 1), width, 1, Bench.filled(width, B));
            Bench.dueBroken("wider than " + width, packed(width, 1, width + 1, 1, 0, 1));
            Bench.dueBrokenAtLast("wider than " + width + ", then nothing", packed(width, 1, width + 1, 1));
            Bench.dueBroken("wider than " + width + " in two", packed(width, 1, width, 1, 1, 1, 0, 1));
            Bench.dueBroken("behind a move", packed(width, 1, 0, 2, width, 0, 1, 1, 0, 1));
            dueRead("behind a smaller move", packed(width, 1, 0, 2, width - 1, 0, 1, 1, 0, 1), width, 1,
                    Bench.with(Bench.filled(width, A), width - 1, B));
            if (width > 2) {
                int[] bytes = Bench.filled(width + 1, 1);
                Bench.dueBroken("bytes wider than " + width,
                        packed(width, 1, Bench.file(0, width + 1, bytes, 0, 0, 1)));
                Bench.dueBrokenAtLast("bytes wider than " + width + ", then nothing",
                        packed(width, 1, Bench.file(0, width + 1, bytes)));
            }
        }
        Bench.dueBroken("above the top", packed(3, 2, 0, 0, 0, 0, 1, 1, 0, 1));
        Bench.dueBroken("above the top by a move", packed(3, 2, 0, 2, 0, 2, 1, 1, 0, 1));
        Bench.dueBroken("above the top in bytes", packed(3, 1, 0, 0, 0, 3, 1, 1, 1, 0, 0, 1));
        Bench.dueBroken("a row does not go on in the next one", packed(2, 2, 4, 1, 0, 1));
        Bench.dueBroken("255 pixels", packed(8, 8, 255, 0, 0, 1));
        Bench.dueBroken("255 bytes", packed(8, 8, Bench.file(0, 255, new int[256], 0, 1)));
    }

    @Holds("a colour that is not there,")
    static void noSuchColour() {
        for (int c = 0; c < 256; c++) {
            int[] pair = packed(2, 1, 1, c, 0, 1);
            int[] bytes = packed(3, 1, 0, 3, c, 1, 2, 0, 0, 1);
            if (c < 3) {
                int colour = Bench.row(A, B, C)[c];
                dueRead("colour " + c, pair, 2, 1, colour, A);
                dueRead("colour " + c + " in bytes", bytes, 3, 1, colour, B, C);
            } else {
                Bench.dueBroken("colour " + c, pair);
                Bench.dueBrokenAtLast("colour " + c + ", then nothing", Bench.without(pair, 2));
                Bench.dueBroken("colour " + c + " in bytes", bytes);
                Bench.dueBrokenAtLast("colour " + c + " in bytes, then nothing", Bench.without(bytes, 5));
            }
        }
        Bench.dueBroken("the last of three bytes", packed(3, 1, 0, 3, 0, 1, 3, 0, 0, 1));
        int[] most = Bench.file(head(310, 1, 1, 8, 1, 64), new int[252], 1, 2, 3, 0, 1, 63, 0, 1);
        dueRead("63 of 64", most, 1, 1, A);
        Bench.dueBroken("64 of 64", Bench.with(most, 311, 64));
        int[] one = Bench.file(head(58, 1, 1, 8, 1, 1), 1, 2, 3, 0, 1, 0, 0, 1);
        dueRead("0 of 1", one, 1, 1, A);
        Bench.dueBroken("1 of 1", Bench.with(one, 59, 1));
        Story more = Bench.fed(packed(1, 1, 1, 2, 0, 1)).and(Subject::decode, 2).and(x -> x.cut(0));
        Story fewer = x -> {
            more.tell(x);
            Bench.fed(Bench.with(one, 59, 1)).tell(x);
        };
        Bench.dueUnchanged("colours of an earlier file are not there", fewer, Subject::decode, FourPictureFiles.BROKEN);
    }

    @Holds("and a place more than W columns to the right or more than H rows up are BROKEN.")
    static void placeTooFar() {
        for (int side = 1; side <= 8; side++) {
            int[] row = Bench.filled(side, A);
            dueRead(side + " to the right", packed(side, 1, 0, 2, side, 0, 0, 1), side, 1, row);
            Bench.dueBroken(side + 1 + " to the right", packed(side, 1, 0, 2, side + 1, 0, 0, 1));
            Bench.dueBrokenAtLast(side + 1 + " to the right, then nothing", packed(side, 1, 0, 2, side + 1, 0));
            dueRead(side + " up", packed(1, side, 0, 2, 0, side, 0, 1), 1, side, row);
            Bench.dueBroken(side + 1 + " up", packed(1, side, 0, 2, 0, side + 1, 0, 1));
            Bench.dueBrokenAtLast(side + 1 + " up, then nothing", packed(1, side, 0, 2, 0, side + 1));
            dueRead("right to the edge behind a pixel", packed(side, 1, 1, 0, 0, 2, side - 1, 0, 0, 1), side, 1, row);
            Bench.dueBroken("beyond the edge behind a pixel", packed(side, 1, 1, 0, 0, 2, side, 0, 0, 1));
            dueRead("up to the edge behind a row", packed(1, side, 0, 0, 0, 2, 0, side - 1, 0, 1), 1, side, row);
            Bench.dueBroken("beyond the edge behind a row", packed(1, side, 0, 0, 0, 2, 0, side, 0, 1));
        }
        dueRead("both at the edge", packed(2, 3, 0, 2, 2, 3, 0, 1), 2, 3, Bench.filled(6, A));
        Bench.dueBroken("two moves beyond the edge", packed(2, 2, 0, 2, 1, 0, 0, 2, 2, 0, 0, 1));
        Bench.dueBroken("255 to the right", packed(8, 8, 0, 2, 255, 0, 0, 1));
        Bench.dueBroken("255 up", packed(8, 8, 0, 2, 0, 255, 0, 1));
        Bench.dueBroken("a row above the one above the top", packed(2, 2, 0, 2, 0, 2, 0, 0, 0, 1));
        dueRead("the row above the top from the top", packed(2, 2, 0, 2, 0, 1, 0, 0, 0, 1), 2, 2, A, A, A, A);
    }

    @Holds("For all depths, what stands behind is not looked at.")
    static void whatStandsBehind() {
        int[][] behind = {{}, {0}, {255, 255, 255}, Bench.file("BM"), new int[100]};
        for (int[] more : behind) {
            dueRead("depth 24", Bench.file(GOOD, more), 1, 1, A);
            dueRead("depth 8", Bench.file(numbers(1, 1, 1, 9, 9, 9), more), 1, 1, B);
            dueRead("packed", Bench.file(packed(1, 1, 1, 1, 0, 1), more), 1, 1, B);
        }
        dueRead("800 bytes", Bench.longFile(GOOD, 800, Bench.row(1)), 1, 1, A);
        dueRead("800 bytes, packed", Bench.longFile(packed(1, 1, 1, 1, 0, 1), 800, Bench.row(1)), 1, 1, B);
    }

    @Holds("WRITING: the 8 bytes are LITTLE 4 the length of the file, and four 0;")
    static void writtenLength() {
        for (int width = 1; width <= 8; width++) {
            int length = 54 + 8 * (3 * width + (4 - 3 * width % 4) % 4);
            int[] file = Bench.written(Bench.drawn(width, 8), 2, 0);
            Bench.due("bytes of " + width + " by 8", file.length, length);
            for (int k = 0; k < 4; k++) {
                Bench.due("length, byte " + k, file[2 + k], Bench.little(length)[k]);
                Bench.due("byte " + (6 + k), file[6 + k], 0);
            }
        }
        int[] many = manyColours(64);
        int[] file = Bench.written(Bench.drawn(8, 8, many), 2, 1);
        Bench.due("64 colours", file.length, 454);
        Bench.due("64 colours: length, the lowest byte", file[2], 454 - 256);
        Bench.due("64 colours: length, the next byte", file[3], 1);
        dueLength(254, 8, 8, 8, 8);
        dueLength(256, 7, 7, 6, 6, 6);
        dueLength(258, 6, 6, 5, 5, 5, 5);
    }

    /** Packed rows with so many pieces each, all of other colours. */
    private static void dueLength(int length, int... pieces) {
        int[] pixels = new int[8 * pieces.length];
        int colour = 0;
        for (int i = 0; i < pixels.length; i++) {
            colour += i % 8 < pieces[i / 8] ? 1 : 0;
            pixels[i] = Bench.grey(colour);
        }
        int[] file = Bench.written(Bench.drawn(8, pieces.length, pixels), 2, 1);
        Bench.due("the length", file.length, length);
        Bench.due("the lowest byte of length " + length, file[2], length % 256);
        Bench.due("the next byte of length " + length, file[3], length / 256);
    }

    private static int[] manyColours(int n) {
        int[] pixels = new int[64];
        for (int k = 0; k < 64; k++) {
            pixels[k] = Bench.rgb(k % n, 2 * (k % n), 255 - k % n);
        }
        return pixels;
    }

    @Holds("all other bytes of which nothing is said are 0; height above 0; the beginning is directly behind the colours.")
    static void writtenRest() {
        Bench.dueWritten("one pixel", Bench.drawn(1, 1), 2, 0, Bench.file(writtenHead(58, 1, 1, 24, 0, 0), 0, 0, 0, 0));
        Bench.dueWritten("one pixel, packed", Bench.drawn(1, 1), 2, 1,
                Bench.file(writtenHead(62, 1, 1, 8, 1, 1), 0, 0, 0, 0, 1, 0, 0, 1));
        Story behind = Bench.fed(Bench.file(head(70, 1, -1, 24, 0, 0), Bench.filled(16, 99), 1, 2, 3, 99))
                .and(Subject::decode, 2);
        Bench.dueWritten("behind other bytes and a height below 0", behind, 2, 0,
                Bench.file(writtenHead(58, 1, 1, 24, 0, 0), 1, 2, 3, 0));
        for (int height = 1; height <= 8; height++) {
            int[] rows = new int[4 * height];
            Bench.dueWritten("height " + height, Bench.drawn(1, height), 2, 0,
                    Bench.file(writtenHead(54 + 4 * height, 1, height, 24, 0, 0), rows));
        }
        int[] numbers = {1, 2, 63, 64};
        for (int n : numbers) {
            int[] file = Bench.written(Bench.drawn(8, 8, manyColours(n)), 2, 1);
            Bench.due("the beginning behind " + n + " colours", file[10] + 256 * file[11], 54 + 4 * n);
            Bench.due("the number of " + n + " colours", file[46], n);
            for (int k = 0; k < n; k++) {
                Bench.due("the byte behind a colour", file[57 + 4 * k], 0);
            }
        }
    }

    @Holds("For how = 0 depth 24.")
    static void writtenWhole() {
        Bench.dueWritten("two rows", Bench.drawn(3, 2, A, B, C, B, B, A), 2, 0,
                Bench.file(writtenHead(78, 3, 2, 24, 0, 0), 4, 5, 6, 4, 5, 6, 1, 2, 3, 0, 0, 0,
                        1, 2, 3, 4, 5, 6, 7, 8, 9, 0, 0, 0));
        Bench.dueWritten("two columns", Bench.drawn(2, 1, A, B), 2, 0,
                Bench.file(writtenHead(62, 2, 1, 24, 0, 0), 1, 2, 3, 4, 5, 6, 0, 0));
        Bench.dueWritten("four columns", Bench.drawn(4, 1, A, B, C, A), 2, 0,
                Bench.file(writtenHead(66, 4, 1, 24, 0, 0), 1, 2, 3, 4, 5, 6, 7, 8, 9, 1, 2, 3));
        Bench.dueWritten("five columns", Bench.drawn(5, 1, A, B, C, A, B), 2, 0,
                Bench.file(writtenHead(70, 5, 1, 24, 0, 0), 1, 2, 3, 4, 5, 6, 7, 8, 9, 1, 2, 3, 4, 5, 6, 0));
        Story packedBefore = Bench.drawn(1, 1, B).and(x -> x.encode(2, 1), 62);
        Bench.dueWritten("behind a packed one", packedBefore, 2, 0,
                Bench.file(writtenHead(58, 1, 1, 24, 0, 0), 4, 5, 6, 0));
    }

    @Holds("For how = 1 depth 8, packing 1, the colours of the picture in the order in which they come in picture order;")
    static void writtenColours() {
        Bench.dueWritten("three rows", Bench.drawn(3, 3, B, B, A, A, C, A, B, B, B), 2, 1,
                Bench.file(writtenHead(84, 3, 3, 8, 1, 3), 4, 5, 6, 0, 1, 2, 3, 0, 7, 8, 9, 0,
                        3, 0, 0, 0, 1, 1, 1, 2, 1, 1, 0, 0, 2, 0, 1, 1, 0, 1));
        int[] numbers = {1, 2, 63, 64};
        for (int n : numbers) {
            int[] file = Bench.written(Bench.drawn(8, 8, manyColours(n)), 2, 1);
            for (int k = 0; k < n; k++) {
                Bench.due("B of colour " + k, file[54 + 4 * k], 255 - k);
                Bench.due("G of colour " + k, file[55 + 4 * k], 2 * k);
                Bench.due("R of colour " + k, file[56 + 4 * k], k);
            }
            Story again = Bench.drawn(8, 8, manyColours(n)).and(x -> x.encode(2, 1) > 0).and(x -> x.make(1, 1));
            Bench.dueState(n + " colours, read again", again.and(Subject::decode, 2), 8, 8, manyColours(n), file);
        }
        Story second = Bench.drawn(1, 1, A).and(x -> x.encode(2, 1), 62).and(x -> x.put(0, 0, B));
        Bench.dueWritten("colours of an earlier writing are gone", second, 2, 1,
                Bench.file(writtenHead(62, 1, 1, 8, 1, 1), 4, 5, 6, 0, 1, 0, 0, 1));
    }

    @Holds("each row, the lowest first, as pairs n, c for each of its longest pieces of one colour, with 0, 0 behind, for "
            + "the last one 0, 1.")
    static void writtenPieces() {
        for (int n = 1; n <= 8; n++) {
            Bench.dueWritten("a piece of " + n, Bench.drawn(n, 1), 2, 1,
                    Bench.file(writtenHead(62, n, 1, 8, 1, 1), 0, 0, 0, 0, n, 0, 0, 1));
            int[] rows = new int[0];
            for (int y = 1; y < n; y++) {
                rows = Bench.file(rows, 1, 0, 0, 0);
            }
            Bench.dueWritten(n + " rows", Bench.drawn(1, n), 2, 1,
                    Bench.file(writtenHead(58 + 4 * n, 1, n, 8, 1, 1), 0, 0, 0, 0, rows, 1, 0, 0, 1));
        }
        Bench.dueWritten("all others", Bench.drawn(3, 1, A, B, A), 2, 1,
                Bench.file(writtenHead(70, 3, 1, 8, 1, 2), 1, 2, 3, 0, 4, 5, 6, 0, 1, 0, 1, 1, 1, 0, 0, 1));
        Bench.dueWritten("a long one, a short one", Bench.drawn(3, 1, A, A, B), 2, 1,
                Bench.file(writtenHead(68, 3, 1, 8, 1, 2), 1, 2, 3, 0, 4, 5, 6, 0, 2, 0, 1, 1, 0, 1));
        Bench.dueWritten("a short one, a long one", Bench.drawn(3, 1, A, B, B), 2, 1,
                Bench.file(writtenHead(68, 3, 1, 8, 1, 2), 1, 2, 3, 0, 4, 5, 6, 0, 1, 0, 2, 1, 0, 1));
        Bench.dueWritten("pieces keep to rows", Bench.drawn(2, 2, A, A, A, B), 2, 1,
                Bench.file(writtenHead(72, 2, 2, 8, 1, 2), 1, 2, 3, 0, 4, 5, 6, 0, 1, 0, 1, 1, 0, 0, 2, 0, 0, 1));
    }

    @Holds("for the last one 0, 1. Refused when the picture is not opaque.")
    static void refused() {
        int[] alphas = {0, 1, 128, 254};
        int[] places = {0, 1, 5};
        for (int how = 0; how < 2; how++) {
            for (int alpha : alphas) {
                for (int place : places) {
                    int[] pixels = Bench.with(Bench.filled(6, A), place, Bench.rgba(3, 2, 1, alpha));
                    Story story = Bench.drawn(3, 2, pixels).and(x -> x.feed(7)).and(x -> x.feed(8));
                    Bench.dueNotWritten("alpha " + alpha + " at " + place, story, 2, how);
                    Bench.dueWritten("opaque again", story.and(x -> x.change(4)), 2, 1,
                            Bench.file(writtenHead(66, 3, 2, 8, 1, 1), 1, 2, 3, 0, 3, 0, 0, 0, 3, 0, 0, 1));
                }
            }
        }
    }
}
