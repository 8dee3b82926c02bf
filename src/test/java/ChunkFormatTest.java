/** Promises 14 and 15 with format 0. */
public final class ChunkFormatTest {
    private static final int[] END = {0, 0, 0, 0, 0, 0, 0, 1};
    private static final int BLACK = 255;
    private static final int RED = Bench.rgb(255, 0, 0);

    public static void main(String[] args) {
        writeRuns();
        writeTable();
        writeDifferences();
        writeAlpha();
        readRuns();
        readTable();
        readDifferences();
        readWholePixels();
        readFaults();
        readTwice();
        Bench.end();
    }

    private static int[] head(int width, int height, int channels) {
        return Bench.file("qoif", 0, 0, 0, width, 0, 0, 0, height, channels, 0);
    }

    private static int[] file(int width, int height, int channels, int... chunks) {
        return Bench.file(head(width, height, channels), chunks, END);
    }

    private static void dueChunks(String what, int[] pixels, int channels, int... chunks) {
        for (int how = 0; how < 2; how++) {
            FourPictureFiles x = Bench.picture(pixels.length, 1, pixels);
            Bench.dueWritten(what, x, 0, how, file(pixels.length, 1, channels, chunks));
        }
    }

    private static int[] row(int... pixels) {
        return pixels;
    }

    private static void writeRuns() {
        Bench.dueWritten("a new object", new FourPictureFiles(), 0, 0, file(1, 1, 3, 192));
        Bench.dueWritten("64 black", Bench.picture(8, 8), 0, 0, file(8, 8, 3, 253, 193));
        FourPictureFiles x = Bench.picture(8, 8);
        x.put(6, 7, RED);
        x.put(7, 7, RED);
        Bench.dueWritten("62 black, 2 red", x, 0, 1, file(8, 8, 3, 253, 90, 192));
        x.put(5, 7, RED);
        Bench.dueWritten("61 black, 3 red", x, 0, 0, file(8, 8, 3, 252, 90, 193));
        x.put(5, 7, BLACK);
        x.put(6, 7, BLACK);
        Bench.dueWritten("63 black, 1 red", x, 0, 0, file(8, 8, 3, 253, 192, 90));
        Bench.dueWritten("over the end of a row", Bench.picture(3, 2, RED, BLACK, BLACK, BLACK, BLACK, RED), 0, 0,
                file(3, 2, 3, 90, 122, 194, 50));
    }

    private static void writeTable() {
        dueChunks("a run puts nothing into the table", row(BLACK, RED, BLACK, RED, BLACK), 3,
                192, 90, 122, 50, 53);
        int same = Bench.rgb(0, 64, 0);
        int place = Bench.rgb(64, 0, 0);
        dueChunks("one place for two pixels", row(same, place, same, same), 3,
                254, 0, 64, 0, 254, 64, 0, 0, 254, 0, 64, 0, 192);
        dueChunks("all zero at first", row(0, 0, BLACK, 0), 4, 0, 192, 255, 0, 0, 0, 255, 0);
        dueChunks("all zero no more", row(64, 0), 4, 255, 0, 0, 0, 64, 255, 0, 0, 0, 0);
    }

    private static void writeDifferences() {
        dueChunks("-2", row(Bench.grey(254)), 3, 64);
        dueChunks("1", row(Bench.grey(1)), 3, 127);
        dueChunks("-1, 0, 1", row(Bench.rgb(255, 0, 1)), 3, 64 + 16 + 8 + 3);
        dueChunks("R 2", row(Bench.rgb(2, 0, 0)), 3, 160, 168);
        dueChunks("R -3", row(Bench.rgb(253, 0, 0)), 3, 160, 5 * 16 + 8);
        dueChunks("G 2", row(Bench.rgb(0, 2, 0)), 3, 162, 6 * 16 + 6);
        dueChunks("G -3", row(Bench.rgb(0, 253, 0)), 3, 157, 11 * 16 + 11);
        dueChunks("B 2", row(Bench.rgb(0, 0, 2)), 3, 160, 8 * 16 + 10);
        dueChunks("B -3", row(Bench.rgb(0, 0, 253)), 3, 160, 8 * 16 + 5);
        dueChunks("G 31, R 7 more, B 8 less", row(Bench.rgb(38, 31, 23)), 3, 191, 240);
        dueChunks("G -32, R 8 less, B 7 more", row(Bench.rgb(216, 224, 231)), 3, 128, 15);
        dueChunks("G 32", row(Bench.grey(32)), 3, 254, 32, 32, 32);
        dueChunks("G -33", row(Bench.grey(223)), 3, 254, 223, 223, 223);
        dueChunks("R 8 more", row(Bench.rgb(8, 0, 0)), 3, 254, 8, 0, 0);
        dueChunks("R 9 less", row(Bench.rgb(247, 0, 0)), 3, 254, 247, 0, 0);
        dueChunks("B 8 more", row(Bench.rgb(0, 0, 8)), 3, 254, 0, 0, 8);
        dueChunks("B 9 less", row(Bench.rgb(0, 0, 247)), 3, 254, 0, 0, 247);
        dueChunks("from 250 to 5", row(Bench.grey(250), Bench.grey(5)), 3, 154, 136, 171, 136);
        dueChunks("to the last one", row(Bench.grey(100), Bench.grey(101)), 3, 254, 100, 100, 100, 127);
    }

    private static void writeAlpha() {
        dueChunks("another alpha", row(Bench.rgba(1, 2, 3, 4)), 4, 255, 1, 2, 3, 4);
        dueChunks("the same alpha", row(Bench.rgba(100, 200, 30, 254), Bench.rgba(101, 200, 30, 254),
                Bench.rgba(101, 200, 30, 255)), 4,
                255, 100, 200, 30, 254, 64 + 48 + 8 + 2, 255, 101, 200, 30, 255);
        dueChunks("opaque at last only", row(BLACK, Bench.rgba(0, 0, 0, 254)), 4, 192, 255, 0, 0, 0, 254);
    }

    private static void readRuns() {
        int[] black = new int[64];
        java.util.Arrays.fill(black, BLACK);
        Bench.dueRead("two runs", file(8, 8, 3, 253, 193), 0, 8, 8, black);
        Bench.dueRead("short runs", file(8, 8, 4, 192, 252, 193), 0, 8, 8, black);
        Bench.dueRead("over a row", file(2, 2, 3, 90, 194), 0, 2, 2, RED, RED, RED, RED);
        Bench.dueBroken("a run of one too many", file(2, 2, 3, 90, 195));
        Bench.dueBroken("a run of 62", file(8, 7, 3, 253));
        Bench.dueBroken("too long, and then nothing", Bench.file(head(2, 2, 3), 196));
        Bench.dueRead("a run between", file(3, 1, 3, 127, 192, 127), 0, 3, 1,
                Bench.grey(1), Bench.grey(1), Bench.grey(2));
    }

    private static void readTable() {
        Bench.dueRead("zeros at first", file(2, 1, 4, 63, 0), 0, 2, 1, 0, 0);
        Bench.dueRead("the place of red", file(3, 1, 3, 90, 122, 50), 0, 3, 1, RED, BLACK, RED);
        Bench.dueRead("a run puts nothing there", file(2, 1, 3, 192, 53), 0, 2, 1, BLACK, 0);
        Bench.dueRead("a difference is put there", file(3, 1, 3, 90, 122, 53), 0, 3, 1, RED, BLACK, BLACK);
        Bench.dueRead("a pixel of the table is put at its own place",
                file(3, 1, 4, 255, 0, 0, 0, 64, 5, 0), 0, 3, 1, 64, 0, 0);
        Bench.dueRead("a pixel of the table is the last one",
                file(4, 1, 4, 90, 122, 50, 254, 7, 8, 9), 0, 4, 1, RED, BLACK, RED, Bench.rgb(7, 8, 9));
        Bench.dueRead("the alpha of the table", file(2, 1, 4, 9, 254, 1, 2, 3), 0, 2, 1, 0, Bench.rgba(1, 2, 3, 0));
        int place = (3 * 200 + 5 * 201 + 7 * 202 + 11 * 203) % 64;
        int pixel = Bench.rgba(200, 201, 202, 203);
        Bench.dueRead("a whole pixel is put there", file(3, 1, 4, 255, 200, 201, 202, 203, 5, place), 0, 3, 1,
                pixel, 0, pixel);
    }

    private static void readDifferences() {
        Bench.dueRead("64", file(1, 1, 3, 64), 0, 1, 1, Bench.grey(254));
        Bench.dueRead("127", file(2, 1, 3, 127, 127), 0, 2, 1, Bench.grey(1), Bench.grey(2));
        Bench.dueRead("each its own", file(1, 1, 3, 64 + 3 * 16 + 1), 0, 1, 1, Bench.rgb(1, 254, 255));
        Bench.dueRead("128, 15", file(1, 1, 3, 128, 15), 0, 1, 1, Bench.rgb(216, 224, 231));
        Bench.dueRead("191, 240", file(1, 1, 3, 191, 240), 0, 1, 1, Bench.rgb(38, 31, 23));
        Bench.dueRead("over 255", file(2, 1, 3, 254, 250, 250, 250, 191, 136), 0, 2, 1,
                Bench.grey(250), Bench.grey(25));
        Bench.dueRead("alpha stays", file(3, 1, 4, 255, 1, 2, 3, 4, 127, 160, 136), 0, 3, 1,
                Bench.rgba(1, 2, 3, 4), Bench.rgba(2, 3, 4, 4), Bench.rgba(2, 3, 4, 4));
    }

    private static void readWholePixels() {
        Bench.dueRead("254 keeps alpha", file(2, 2, 3, 254, 9, 8, 7, 255, 1, 2, 3, 4, 254, 5, 6, 7, 0), 0, 2, 2,
                Bench.rgb(9, 8, 7), Bench.rgba(1, 2, 3, 4), Bench.rgba(5, 6, 7, 4), 0);
        Bench.dueRead("255", file(1, 1, 3, 255, 255, 255, 255, 255), 0, 1, 1, -1);
        int[] colourSpace = Bench.with(file(1, 1, 3, 192), 13, 1);
        Bench.dueRead("the other byte 1", colourSpace, 0, 1, 1, BLACK);
    }

    private static void readTwice() {
        FourPictureFiles x = new FourPictureFiles();
        Bench.feed(x, file(2, 1, 3, 90, 122));
        Bench.due("the first file", x.decode(), 0);
        x.cut(0);
        Bench.feed(x, file(3, 1, 4, 192, 50, 53));
        Bench.due("the second file", x.decode(), 0);
        Bench.duePicture("table and last pixel are new ones", x, 3, 1, BLACK, 0, 0);
    }

    private static void readFaults() {
        int[] good = file(3, 1, 3, 90, 160, 168, 255, 1, 2, 3, 4);
        Bench.dueRead("the good file", good, 0, 3, 1, RED, Bench.rgb(1, 0, 0), Bench.rgba(1, 2, 3, 4));
        Bench.dueShortBeginnings("the good file", good, 4);
        Bench.dueBroken("a byte more", Bench.file(good, 0));
        Bench.dueBroken("another end behind the end", Bench.file(good, END));
        for (int k = 1; k <= 8; k++) {
            int place = good.length - k;
            Bench.dueBroken("end byte " + k, Bench.with(good, place, good[place] + 1));
            Bench.dueBroken("end byte, cut", Bench.without(Bench.with(good, place, 2), k - 1));
        }
        int[] wrongSides = {0, 9, 255};
        for (int side : wrongSides) {
            Bench.dueBroken("width " + side, Bench.with(good, 7, side));
            Bench.dueBroken("height " + side, Bench.with(good, 11, side));
        }
        for (int k = 4; k < 7; k++) {
            Bench.dueBroken("a great width", Bench.with(good, k, 1));
            Bench.dueBroken("a great height", Bench.with(good, k + 4, 128));
        }
        for (int b = 0; b < 256; b++) {
            if (b != 3 && b != 4) {
                Bench.dueBroken("channels " + b, Bench.with(good, 12, b));
            }
            if (b > 1) {
                Bench.dueBroken("colour space " + b, Bench.with(good, 13, b));
            }
        }
        Bench.dueBroken("width looked at first", Bench.file("qoif", 0, 0, 0, 9));
        Bench.dueShort("width not yet looked at", Bench.file("qoif", 1, 1, 1));
        Bench.dueBroken("height looked at first", Bench.file("qoif", 0, 0, 0, 1, 0, 0, 0, 0));
        Bench.dueBroken("channels looked at first", Bench.file("qoif", 0, 0, 0, 1, 0, 0, 0, 1, 5));
        Bench.dueShort("a pixel too few", Bench.file(head(2, 1, 3), 254, 1, 1, 1));
    }
}
