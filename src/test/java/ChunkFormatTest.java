/** Format 0, read and written. */
public final class ChunkFormatTest {
    private static final int BLACK = Bench.BLACK;
    private static final int RED = Bench.rgb(255, 0, 0);
    private static final int[] END = {0, 0, 0, 0, 0, 0, 0, 1};
    private static final int[] GOOD = file(3, 1, 3, 90, 160, 168, 255, 1, 2, 3, 4);

    public static void main(String[] args) {
        Bench.run(ChunkFormatTest.class);
    }

    private static int[] head(int width, int height, int channels) {
        return Bench.file("qoif", Bench.big(width), Bench.big(height), channels, 0);
    }

    private static int[] file(int width, int height, int channels, int... chunks) {
        return Bench.file(head(width, height, channels), chunks, END);
    }

    private static int place(int red, int green, int blue, int alpha) {
        return (3 * red + 5 * green + 7 * blue + 11 * alpha) % 64;
    }

    /** A pixel that is at another place of the table. */
    private static int away(int place) {
        return place == place(7, 7, 7, 7) ? 0x08080808 : 0x07070707;
    }

    private static int mod(int value) {
        return Math.floorMod(value, 256);
    }

    /** These chunks give a row of these pixels. */
    private static void duePixels(String what, int[] chunks, int... pixels) {
        Bench.dueRead(what, file(pixels.length, 1, 4, chunks), 0, pixels.length, 1, pixels);
    }

    /** A row of these pixels gives these chunks, for how = 0 and 1. */
    private static void dueChunks(String what, int[] pixels, int channels, int... chunks) {
        for (int how = 0; how < 2; how++) {
            Bench.dueWritten(what, Bench.drawn(pixels.length, 1, pixels), 0, how,
                    file(pixels.length, 1, channels, chunks));
        }
    }

    @Holds("FORMAT 0. The four bytes; BIG 4 the width; BIG 4 the height;")
    static void sides() {
        Bench.dueRead("as it should be", GOOD, 0, 3, 1, RED, Bench.rgb(1, 0, 0), Bench.rgba(1, 2, 3, 4));
        int[] wrong = {0, 9, 255, 256, 257, 65536, 65537, 1 << 24, (1 << 24) + 1, -1, -8, Integer.MIN_VALUE + 3};
        for (int side : wrong) {
            Bench.dueBroken("width " + side, file(side, 1, 3, 192));
            Bench.dueBroken("height " + side, file(1, side, 3, 192));
            Bench.dueBrokenAtLast("width " + side + ", then nothing", Bench.file("qoif", Bench.big(side)));
            Bench.dueBrokenAtLast("height " + side + ", then nothing",
                    Bench.file("qoif", Bench.big(8), Bench.big(side)));
        }
        for (int side = 1; side <= 8; side++) {
            Bench.dueRead("width " + side, file(side, 1, 3, 191 + side), 0, side, 1, Bench.filled(side, BLACK));
            Bench.dueRead("height " + side, file(1, side, 3, 191 + side), 0, 1, side, Bench.filled(side, BLACK));
        }
        Bench.dueShortBeginnings("as it should be", GOOD, 4);
    }

    @Holds("a byte 3 or 4;")
    static void channels() {
        for (int b = 0; b < 256; b++) {
            int[] file = file(1, 1, b, 255, 1, 2, 3, 4);
            if (b == 3 || b == 4) {
                Bench.dueRead("channels " + b, file, 0, 1, 1, 0x01020304);
            } else {
                Bench.dueBroken("channels " + b, file);
                Bench.dueBrokenAtLast("channels " + b + ", then nothing", Bench.without(head(1, 1, b), 1));
            }
        }
    }

    @Holds("a byte 0 or 1;")
    static void colourSpace() {
        for (int b = 0; b < 256; b++) {
            int[] file = Bench.with(file(1, 1, 3, 192), 13, b);
            if (b <= 1) {
                Bench.dueRead("byte 13 is " + b, file, 0, 1, 1, BLACK);
            } else {
                Bench.dueBroken("byte 13 is " + b, file);
                Bench.dueBrokenAtLast("byte 13 is " + b + ", then nothing", Bench.with(head(1, 1, 3), 13, b));
            }
        }
    }

    @Holds("then CHUNKS until all pixels are there, in picture order;")
    static void chunksUntilAllAreThere() {
        int[] ones = {127, 127, 127, 127, 127, 127};
        Bench.dueRead("six chunks for 3 by 2", file(3, 2, 3, ones), 0, 3, 2, Bench.greys(1, 2, 3, 4, 5, 6));
        Bench.dueRead("six chunks for 2 by 3", file(2, 3, 3, ones), 0, 2, 3, Bench.greys(1, 2, 3, 4, 5, 6));
        Bench.dueBroken("a chunk too few: the end is read as a chunk, and ends too early", file(7, 1, 3, ones));
        Bench.dueBroken("a chunk too many", file(5, 1, 3, ones));
        Bench.dueShort("five chunks of six", Bench.file(head(3, 2, 3), Bench.without(ones, 1)));
        Bench.dueShort("no chunk", head(1, 1, 3));
        int[] pixels = Bench.filled(64, BLACK);
        Bench.dueRead("64 runs of one", file(8, 8, 3, Bench.filled(64, 192)), 0, 8, 8, pixels);
        Bench.dueShort("63 runs of one", Bench.file(head(8, 8, 3), Bench.filled(63, 192)));
        Bench.dueBroken("65 runs of one", file(8, 8, 3, Bench.filled(65, 192)));
        Bench.dueRead("one pixel", file(1, 1, 3, 192), 0, 1, 1, BLACK);
    }

    @Holds("then seven bytes 0 and a byte 1;")
    static void sevenZerosAndOne() {
        int[] values = {1, 2, 128, 255};
        for (int k = 0; k < 7; k++) {
            for (int value : values) {
                int[] file = Bench.with(GOOD, GOOD.length - 8 + k, value);
                Bench.dueBroken("end byte " + k + " is " + value, file);
                Bench.dueBrokenAtLast("end byte " + k + " is " + value + ", then nothing", Bench.without(file, 7 - k));
            }
        }
        for (int b = 0; b < 256; b++) {
            if (b != 1) {
                Bench.dueBroken("the last byte is " + b, Bench.with(GOOD, GOOD.length - 1, b));
            }
        }
        Bench.dueShort("six bytes 0", Bench.without(GOOD, 2));
        Bench.dueShort("seven bytes 0", Bench.without(GOOD, 1));
        Bench.dueRead("seven bytes 0 and a byte 1", GOOD, 0, 3, 1, RED, Bench.rgb(1, 0, 0), Bench.rgba(1, 2, 3, 4));
        Bench.dueBroken("six bytes 0 and a byte 1", Bench.file(Bench.without(GOOD, 2), 1));
        Bench.dueBroken("eight bytes 0 and a byte 1", Bench.file(Bench.without(GOOD, 1), 0, 1));
    }

    @Holds("then the end (a byte more is BROKEN).")
    static void theEnd() {
        Bench.dueRead("no byte more", GOOD, 0, 3, 1, RED, Bench.rgb(1, 0, 0), Bench.rgba(1, 2, 3, 4));
        int[] more = {0, 1, 10, 32, 192, 255};
        for (int b : more) {
            Bench.dueBroken("a byte more, " + b, Bench.file(GOOD, b));
        }
        Bench.dueBroken("the end twice", Bench.file(GOOD, END));
        Bench.dueShort("a byte less", Bench.without(GOOD, 1));
        int[] full = Bench.longFile(GOOD, 800, new int[0]);
        Bench.dueBroken("800 bytes", full);
        Story cut = Bench.fed(Bench.file(GOOD, 7)).and(Subject::decode, FourPictureFiles.BROKEN)
                .and(x -> x.cut(GOOD.length)).and(Subject::decode, 0);
        Bench.dueState("the byte more is cut off", cut, 3, 1, Bench.row(RED, Bench.rgb(1, 0, 0), 0x01020304), GOOD);
    }

    @Holds("There is a LAST pixel, at first 0, 0, 0, 255, and a TABLE of 64 pixels, all 0, 0, 0, 0 at first.")
    static void lastAndTableAtFirst() {
        duePixels("a run at first", Bench.row(192), BLACK);
        duePixels("a difference at first", Bench.row(106), BLACK);
        duePixels("alpha at first", Bench.row(254, 1, 2, 3), Bench.rgb(1, 2, 3));
        for (int c = 0; c < 64; c++) {
            duePixels("place " + c + " at first", Bench.row(c), 0);
        }
        dueChunks("the last pixel is black at first", Bench.row(BLACK), 3, 192);
        dueChunks("but black is not in the table", Bench.row(RED, BLACK), 3, 90, 122);
        dueChunks("the table has 0, 0, 0, 0 at place 0", Bench.row(0), 4, 0);
        Story twice = Bench.fed(file(2, 1, 3, 90, 122)).and(Subject::decode, 0).and(x -> x.cut(0));
        int[] second = file(3, 1, 4, 192, 50, 53);
        Story read = x -> {
            twice.tell(x);
            Bench.fed(second).tell(x);
        };
        Bench.dueState("at first for each reading", read.and(Subject::decode, 0), 3, 1, Bench.row(BLACK, 0, 0), second);
        Story written = Bench.drawn(2, 1, RED, Bench.grey(7)).and(x -> x.encode(0, 0), 25);
        Bench.dueWritten("at first for each writing", written, 0, 0, file(2, 1, 3, 90, 167, 0x98));
        Story readAndWritten = Bench.fed(file(2, 1, 3, 90, 122)).and(Subject::decode, 0);
        Bench.dueWritten("and for a writing behind a reading", readAndWritten, 0, 0, file(2, 1, 3, 90, 122));
    }

    @Holds("The PLACE of a pixel in it is (3 * R + 5 * G + 7 * B + 11 * A) % 64.")
    static void place() {
        int[] edges = {0, 1, 63, 64, 127, 128, 255};
        for (int k = 0; k < 7 * 7 * 4; k++) {
            int one = edges[k % 7];
            int other = edges[k / 7 % 7];
            int[] parts = {other, other, other, other};
            parts[k / 49] = one;
            int place = place(parts[0], parts[1], parts[2], parts[3]);
            int pixel = Bench.rgba(parts[0], parts[1], parts[2], parts[3]);
            int[] chunks = Bench.file(255, parts, 255, Bench.big(away(place)), place);
            duePixels("read from place " + place, chunks, pixel, away(place), pixel);
            // Black is the last pixel at first, and so is put nowhere.
            int[] found = Bench.written(Bench.drawn(4, 1, 1, pixel, away(place), pixel), 0, 0);
            Bench.due("written as place " + place, found[found.length - 9], place);
        }
        duePixels("the place 63", Bench.row(255, 0, 0, 0, 29, 255, 9, 9, 9, 9, 63), 29, 0x09090909, 29);
        duePixels("the place 0 of 64", Bench.row(255, 0, 0, 0, 64, 255, 9, 9, 9, 9, 0), 64, 0x09090909, 64);
    }

    @Holds("A chunk begins with a byte c: 255: four bytes R G B A.")
    static void wholePixels() {
        duePixels("255", Bench.row(255, 1, 2, 3, 4), 0x01020304);
        duePixels("255 with all bytes 0", Bench.row(255, 0, 0, 0, 0), 0);
        duePixels("255 with all bytes 255", Bench.row(255, 255, 255, 255, 255), -1);
        duePixels("255 with 128 first", Bench.row(255, 128, 0, 0, 0), Integer.MIN_VALUE);
        duePixels("255 with the last pixel again", Bench.row(255, 0, 0, 0, 255), BLACK);
        Bench.dueShortBeginnings("255", Bench.file(head(1, 1, 4), 255, 1, 2, 3, 4), 14);
    }

    @Holds("254: three bytes R G B; A is that of the last pixel.")
    static void colours() {
        duePixels("254", Bench.row(254, 1, 2, 3), Bench.rgb(1, 2, 3));
        duePixels("254 behind another alpha", Bench.row(255, 1, 2, 3, 4, 254, 5, 6, 7, 254, 255, 254, 253),
                0x01020304, 0x05060704, 0xFFFEFD04);
        duePixels("254 behind alpha 0 of the table", Bench.row(9, 254, 1, 2, 3), 0, 0x01020300);
        duePixels("254 behind a run", Bench.row(192, 254, 0, 0, 0), BLACK, BLACK);
        Bench.dueShortBeginnings("254", Bench.file(head(1, 1, 4), 254, 1, 2, 3), 14);
    }

    @Holds("0 .. 63: the pixel at place c of the table.")
    static void fromTable() {
        for (int c = 0; c < 64; c++) {
            // 35 * 11 is 1 more than a multiple of 64, so this alpha has the place c.
            int alpha = 35 * c % 64;
            duePixels("the place " + c, Bench.file(255, 0, 0, 0, alpha + 64, 255, Bench.big(away(c)), c),
                    alpha + 64, away(c), alpha + 64);
        }
        duePixels("63 is a place, 64 a difference", Bench.row(63, 64), 0, Bench.rgba(254, 254, 254, 0));
        duePixels("the newest pixel of a place", Bench.row(254, 0, 64, 0, 254, 64, 0, 0, 53), Bench.rgb(0, 64, 0),
                Bench.rgb(64, 0, 0), Bench.rgb(64, 0, 0));
    }

    @Holds("64 .. 127: R, G, B are those of the last pixel plus c / 16 % 4 - 2, c / 4 % 4 - 2, c % 4 - 2 (mod 256); A stays.")
    static void smallDifferences() {
        int[][] lasts = {{0, 0, 0, 255}, {255, 255, 255, 0}, {1, 254, 128, 77}, {2, 253, 0, 1}};
        for (int[] last : lasts) {
            for (int c = 64; c < 128; c++) {
                int pixel = Bench.rgba(mod(last[0] + c / 16 % 4 - 2), mod(last[1] + c / 4 % 4 - 2),
                        mod(last[2] + c % 4 - 2), last[3]);
                duePixels("difference " + c, Bench.file(255, last, c), Bench.rgba(last[0], last[1], last[2], last[3]),
                        pixel);
            }
        }
        duePixels("64 is -2", Bench.row(64), Bench.grey(254));
        duePixels("127 is 1", Bench.row(127), Bench.grey(1));
        duePixels("254 and 2 wraps", Bench.row(254, 255, 255, 255, 127), Bench.grey(255), Bench.grey(0));
    }

    @Holds("128 .. 191: with g = c - 160 and the next byte d: G plus g, R plus g + d / 16 - 8, B plus g + d % 16 - 8 "
            + "(mod 256); A stays.")
    static void greatDifferences() {
        int[][] lasts = {{0, 0, 0, 255}, {255, 255, 255, 0}, {250, 20, 128, 77}};
        int[] bytes = {0, 1, 15, 16, 119, 127, 128, 136, 240, 255};
        for (int[] last : lasts) {
            for (int c = 128; c < 192; c++) {
                for (int d : bytes) {
                    int g = c - 160;
                    int pixel = Bench.rgba(mod(last[0] + g + d / 16 - 8), mod(last[1] + g),
                            mod(last[2] + g + d % 16 - 8), last[3]);
                    duePixels("difference " + c + ", " + d, Bench.file(255, last, c, d),
                            Bench.rgba(last[0], last[1], last[2], last[3]), pixel);
                }
            }
        }
        duePixels("128 is -32", Bench.row(128, 15), Bench.rgb(216, 224, 231));
        duePixels("191 is 31", Bench.row(191, 240), Bench.rgb(38, 31, 23));
        Bench.dueShort("no second byte", Bench.file(head(1, 1, 3), 128));
        Bench.dueShort("no second byte", Bench.file(head(1, 1, 3), 191));
    }

    @Holds("192 .. 253: c - 191 pixels more that are the last pixel; BROKEN if there are not so many left.")
    static void runs() {
        for (int c = 192; c <= 253; c++) {
            int n = c - 191;
            int[] rest = Bench.filled(64 - n, 192);
            Bench.dueRead("a run of " + n, file(8, 8, 3, Bench.file(c, rest)), 0, 8, 8, Bench.filled(64, BLACK));
            Bench.dueRead("at last", file(8, 8, 3, Bench.file(rest, c)), 0, 8, 8, Bench.filled(64, BLACK));
            Bench.dueBroken("one too many", file(8, 8, 3, Bench.file(rest, 192, c)));
            Bench.dueBrokenAtLast("one too many, then nothing", Bench.file(head(8, 8, 3), rest, 192, c));
            Bench.dueShort("one too few", Bench.file(head(8, 8, 3), Bench.without(Bench.file(rest, 0), 2), c));
        }
        for (int left = 1; left <= 7; left++) {
            int[] first = {255, 1, 2, 3, 4};
            duePixels(left + " left", Bench.file(first, 191 + left), Bench.filled(left + 1, 0x01020304));
            Bench.dueBroken(left + " left, and one more", file(left + 1, 1, 4, Bench.file(first, 192 + left)));
        }
        Bench.dueBroken("62 of 56", file(8, 7, 3, 253));
        Bench.dueBroken("two of one", file(1, 1, 3, 193));
        Bench.dueRead("one of one", file(1, 1, 3, 192), 0, 1, 1, BLACK);
        Bench.dueRead("over the end of a row", file(2, 2, 3, 90, 194), 0, 2, 2, RED, RED, RED, RED);
        Bench.dueBroken("one too many over the end of a row", file(2, 2, 3, 90, 195));
        duePixels("253 is a run, 254 is none", Bench.row(254, 8, 8, 8), Bench.grey(8));
    }

    @Holds("A pixel that comes of one of the other chunks becomes the last one and is put at its place of the table; the "
            + "last group of chunks puts nothing there.")
    static void intoTable() {
        int whole = Bench.rgba(200, 201, 202, 203);
        duePixels("of 255", Bench.row(255, 200, 201, 202, 203, 5, place(200, 201, 202, 203)), whole, 0, whole);
        int coloured = Bench.rgb(200, 201, 203);
        duePixels("of 254", Bench.row(254, 200, 201, 203, 5, place(200, 201, 203, 255)), coloured, 0, coloured);
        duePixels("of 64 .. 127", Bench.row(90, 5, 50), RED, 0, RED);
        int reddish = Bench.rgb(2, 0, 0);
        duePixels("of 128 .. 191", Bench.row(160, 168, 5, place(2, 0, 0, 255)), reddish, 0, reddish);
        duePixels("of 0 .. 63, at its own place", Bench.row(255, 0, 0, 0, 64, 5, 0), 64, 0, 0);
        duePixels("a run puts nothing there", Bench.row(192, 53), BLACK, 0);
        duePixels("nor does a long one", Bench.row(196, 53), BLACK, BLACK, BLACK, BLACK, BLACK, 0);
        duePixels("the last one of 255", Bench.row(255, 1, 2, 3, 4, 127), 0x01020304, 0x02030404);
        duePixels("the last one of 254", Bench.row(254, 1, 2, 3, 127), Bench.rgb(1, 2, 3), Bench.rgb(2, 3, 4));
        duePixels("the last one of 0 .. 63", Bench.row(5, 127), 0, Bench.rgba(1, 1, 1, 0));
        duePixels("the last one of 64 .. 127", Bench.row(127, 127, 192), Bench.grey(1), Bench.grey(2), Bench.grey(2));
        duePixels("the last one of 128 .. 191", Bench.row(191, 136, 191, 136, 192), Bench.grey(31), Bench.grey(62),
                Bench.grey(62));
        duePixels("the last one of a run", Bench.row(90, 192, 122), RED, RED, BLACK);
    }

    @Holds("WRITING (the same for how = 0 and 1): the byte 3 for an opaque picture, else 4; then 0.")
    static void writtenHead() {
        dueChunks("opaque", Bench.row(BLACK, BLACK), 3, 193);
        dueChunks("all but the first opaque", Bench.row(Bench.rgba(0, 0, 0, 254), BLACK), 4,
                255, 0, 0, 0, 254, 255, 0, 0, 0, 255);
        dueChunks("all but the last opaque", Bench.row(BLACK, Bench.rgba(0, 0, 0, 254)), 4, 192, 255, 0, 0, 0, 254);
        dueChunks("alpha 0", Bench.row(Bench.rgba(1, 2, 3, 0)), 4, 255, 1, 2, 3, 0);
        for (int side = 1; side <= 8; side++) {
            Bench.dueWritten("width " + side, Bench.drawn(side, 1), 0, 0, file(side, 1, 3, 191 + side));
            Bench.dueWritten("height " + side, Bench.drawn(1, side), 0, 1, file(1, side, 3, 191 + side));
        }
    }

    @Holds("For each pixel that is the last one, it is counted; the count is written as a chunk 192 .. 253 when it is 62, "
            + "when the next pixel is another one, and behind the last pixel.")
    static void writtenRuns() {
        int[] blacks = Bench.filled(64, BLACK);
        int[][] ends = {{253, 193}, {253, 192, 90}, {253, 90, 192}, {252, 90, 193}, {251, 90, 194}};
        for (int reds = 0; reds < ends.length; reds++) {
            int[] pixels = blacks.clone();
            for (int k = 0; k < reds; k++) {
                pixels[63 - k] = RED;
            }
            for (int how = 0; how < 2; how++) {
                Bench.dueWritten(64 - reds + " black", Bench.drawn(8, 8, pixels), 0, how, file(8, 8, 3, ends[reds]));
            }
        }
        int[] redFirst = Bench.filled(64, RED);
        Bench.dueWritten("63 behind the first", Bench.drawn(8, 8, redFirst), 0, 0, file(8, 8, 3, 90, 253, 192));
        redFirst[63] = BLACK;
        Bench.dueWritten("62 behind the first", Bench.drawn(8, 8, redFirst), 0, 0, file(8, 8, 3, 90, 253, 122));
        Bench.dueWritten("56 of one", Bench.drawn(8, 7), 0, 0, file(8, 7, 3, 247));
        dueChunks("one of one", Bench.row(BLACK), 3, 192);
        dueChunks("two", Bench.row(BLACK, BLACK, RED, RED), 3, 193, 90, 192);
        dueChunks("one each time", Bench.row(RED, RED, BLACK, BLACK), 3, 90, 192, 122, 192);
        Bench.dueWritten("over the end of a row", Bench.drawn(3, 2, RED, BLACK, BLACK, BLACK, BLACK, RED), 0, 0,
                file(3, 2, 3, 90, 122, 194, 50));
    }

    @Holds("Any other pixel: if it is at its place of the table, a chunk 0 .. 63.")
    static void writtenFromTable() {
        dueChunks("a run puts nothing into the table", Bench.row(BLACK, RED, BLACK, RED, BLACK), 3,
                192, 90, 122, 50, 53);
        dueChunks("all zero at first", Bench.row(0, 0, BLACK, 0), 4, 0, 192, 255, 0, 0, 0, 255, 0);
        dueChunks("the table before the differences", Bench.row(Bench.grey(1), Bench.grey(2), Bench.grey(1)), 3,
                127, 127, place(1, 1, 1, 255));
        dueChunks("the table before 255", Bench.row(5, BLACK, 5), 4, 255, 0, 0, 0, 5, 255, 0, 0, 0, 255, 55);
        for (int c = 0; c < 64; c++) {
            int alpha = 35 * c % 64 + 64;
            dueChunks("the place " + c, Bench.row(alpha, away(c), alpha), 4,
                    Bench.file(255, 0, 0, 0, alpha, 255, Bench.big(away(c)), c));
        }
    }

    @Holds("Else it is put there;")
    static void putIntoTable() {
        int one = Bench.rgb(0, 64, 0);
        int other = Bench.rgb(64, 0, 0);
        dueChunks("one place for two pixels", Bench.row(one, other, one, one), 3,
                254, 0, 64, 0, 254, 64, 0, 0, 254, 0, 64, 0, 192);
        dueChunks("all zero no more", Bench.row(64, 0, 64), 4, 255, 0, 0, 0, 64, 255, 0, 0, 0, 0, 255, 0, 0, 0, 64);
        dueChunks("of 64 .. 127", Bench.row(RED, 0, RED), 4, 90, 0, 50);
        dueChunks("of 128 .. 191", Bench.row(Bench.grey(9), 0, Bench.grey(9)), 4, 169, 136, 0, place(9, 9, 9, 255));
        dueChunks("of 254", Bench.row(Bench.grey(99), 0, Bench.grey(99)), 4, 254, 99, 99, 99, 0,
                place(99, 99, 99, 255));
        dueChunks("of 255", Bench.row(0x05050505, 0, 0x05050505), 4, 255, 5, 5, 5, 5, 0, place(5, 5, 5, 5));
    }

    /** The differences between two pixels of the same alpha, and the chunk that is due for them. */
    private static void dueDifference(int[] last, int byRed, int byGreen, int byBlue) {
        int red = mod(last[0] + byRed);
        int green = mod(last[1] + byGreen);
        int blue = mod(last[2] + byBlue);
        int before = Bench.rgba(last[0], last[1], last[2], 7);
        int pixel = Bench.rgba(red, green, blue, 7);
        if (pixel == before) {
            return;
        }
        dueChunks("differences " + byRed + ", " + byGreen + ", " + byBlue, Bench.row(before, pixel), 4,
                Bench.file(255, last, 7, dueChunk(byRed, byGreen, byBlue, red, green, blue)));
    }

    private static int[] dueChunk(int byRed, int byGreen, int byBlue, int red, int green, int blue) {
        int r = (byte) byRed;
        int g = (byte) byGreen;
        int b = (byte) byBlue;
        if (r >= -2 && r <= 1 && g >= -2 && g <= 1 && b >= -2 && b <= 1) {
            return Bench.row(64 + 16 * (r + 2) + 4 * (g + 2) + b + 2);
        }
        int redLess = (byte) (r - g);
        int blueLess = (byte) (b - g);
        if (g >= -32 && g <= 31 && redLess >= -8 && redLess <= 7 && blueLess >= -8 && blueLess <= 7) {
            return Bench.row(160 + g, 16 * (redLess + 8) + blueLess + 8);
        }
        return Bench.row(254, red, green, blue);
    }

    @Holds("then, if its A is that of the last pixel: a chunk 64 .. 127 if the three differences (mod 256, as -128 .. 127) "
            + "are -2 .. 1;")
    static void writtenSmallDifferences() {
        int[][] lasts = {{100, 100, 100}, {0, 0, 0}, {255, 255, 255}, {1, 254, 2}};
        for (int[] last : lasts) {
            for (int k = 0; k < 6 * 6 * 6; k++) {
                dueDifference(last, k % 6 - 3, k / 6 % 6 - 3, k / 36 - 3);
            }
        }
        dueChunks("-2", Bench.row(Bench.grey(254)), 3, 64);
        dueChunks("1", Bench.row(Bench.grey(1)), 3, 127);
        dueChunks("-1, 0, 1", Bench.row(Bench.rgb(255, 0, 1)), 3, 64 + 16 + 8 + 3);
        dueChunks("R is 2", Bench.row(Bench.rgb(2, 0, 0)), 3, 160, 168);
        dueChunks("R is -3", Bench.row(Bench.rgb(253, 0, 0)), 3, 160, 88);
        dueChunks("another alpha", Bench.row(Bench.rgba(1, 1, 1, 254)), 4, 255, 1, 1, 1, 254);
    }

    @Holds("else one of 128 .. 191 if that of G is -32 .. 31 and those of R and B less that of G (mod 256, likewise) are "
            + "-8 .. 7;")
    static void writtenGreatDifferences() {
        int[][] lasts = {{100, 100, 100}, {0, 0, 0}, {255, 250, 5}};
        int[] greens = {-128, -127, -34, -33, -32, -31, 0, 30, 31, 32, 33, 126, 127};
        int[] less = {-128, -10, -9, -8, -7, 0, 6, 7, 8, 9, 127};
        for (int[] last : lasts) {
            for (int green : greens) {
                for (int red : less) {
                    for (int blue : less) {
                        dueDifference(last, green + red, green, green + blue);
                    }
                }
            }
        }
        dueChunks("G 31, R 7 more, B 8 less", Bench.row(Bench.rgb(38, 31, 23)), 3, 191, 240);
        dueChunks("G -32, R 8 less, B 7 more", Bench.row(Bench.rgb(216, 224, 231)), 3, 128, 15);
        dueChunks("G 32", Bench.row(Bench.grey(32)), 3, 254, 32, 32, 32);
        dueChunks("G -33", Bench.row(Bench.grey(223)), 3, 254, 223, 223, 223);
        dueChunks("R 8 more", Bench.row(Bench.rgb(8, 0, 0)), 3, 254, 8, 0, 0);
        dueChunks("B 9 less", Bench.row(Bench.rgb(0, 0, 247)), 3, 254, 0, 0, 247);
        dueChunks("from 250 to 5", Bench.row(Bench.grey(250), Bench.grey(5)), 3, 154, 136, 171, 136);
    }

    @Holds("else 254; and if A differs, 255.")
    static void writtenWhole() {
        dueChunks("254", Bench.row(Bench.rgb(1, 100, 200)), 3, 254, 1, 100, 200);
        dueChunks("254 with another alpha than 255", Bench.row(0x0A0B0C05, 0x70B0C005), 4,
                255, 10, 11, 12, 5, 254, 0x70, 0xB0, 0xC0);
        dueChunks("255 by alpha alone", Bench.row(Bench.rgba(0, 0, 0, 254)), 4, 255, 0, 0, 0, 254);
        dueChunks("255 back to 255", Bench.row(Bench.rgba(0, 0, 0, 254), Bench.rgb(0, 0, 1)), 4,
                255, 0, 0, 0, 254, 255, 0, 0, 1, 255);
        dueChunks("alpha 255 to 0", Bench.row(Bench.rgba(9, 9, 9, 0)), 4, 255, 9, 9, 9, 0);
    }

    @Holds("Then it is the last one.")
    static void writtenLast() {
        dueChunks("behind 254", Bench.row(Bench.grey(100), Bench.grey(101), Bench.grey(101)), 3,
                254, 100, 100, 100, 127, 192);
        dueChunks("behind 255", Bench.row(0x64646464, 0x65656564), 4, 255, 100, 100, 100, 100, 127);
        dueChunks("behind 0 .. 63", Bench.row(RED, BLACK, RED, RED, Bench.rgb(0, 1, 1)), 3, 90, 122, 50, 192, 127);
        dueChunks("behind 64 .. 127", Bench.row(Bench.grey(1), Bench.grey(2), Bench.grey(2)), 3, 127, 127, 192);
        dueChunks("behind 128 .. 191", Bench.row(Bench.grey(31), Bench.grey(62), Bench.grey(62)), 3,
                191, 136, 191, 136, 192);
        dueChunks("behind a run", Bench.row(BLACK, BLACK, Bench.grey(1)), 3, 193, 127);
    }
}
