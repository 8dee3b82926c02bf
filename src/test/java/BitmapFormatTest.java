/** Promises 14 and 15 with format 2. */
public final class BitmapFormatTest {
    private static final int A = Bench.rgb(3, 2, 1);
    private static final int B = Bench.rgb(6, 5, 4);
    private static final int C = Bench.rgb(9, 8, 7);
    private static final int[] COLOURS = {1, 2, 3, 200, 4, 5, 6, 201, 7, 8, 9, 202};

    public static void main(String[] args) {
        writePlain();
        writePacked();
        readPlain();
        readNumbers();
        readPacked();
        readPackedMoves();
        headerFaults();
        beginningFaults();
        colourFaults();
        packedFaults();
        readTwice();
        Bench.end();
    }

    private static int[] little(int value) {
        return new int[] {value & 255, value >>> 8 & 255, value >>> 16 & 255, value >>> 24};
    }

    /** A header of 54 bytes with other bytes where nothing is said of them. */
    private static int[] head(int beginning, int width, int height, int depth, int packing, int colours) {
        return Bench.file("BM", 11, 12, 13, 14, 15, 16, 17, 18, little(beginning), little(40), little(width),
                little(height), 1, 0, depth, 0, little(packing), 21, 22, 23, 24, 25, 26, 27, 28, 29, 30, 31, 32,
                little(colours), 41, 42, 43, 44);
    }

    private static int[] numbers(int width, int height, int... rows) {
        return Bench.file(head(66, width, height, 8, 0, 3), COLOURS, rows);
    }

    private static int[] packed(int width, int height, int... codes) {
        return Bench.file(head(66, width, height, 8, 1, 3), COLOURS, codes);
    }

    private static int[] cleanHead(int length, int width, int height, int depth, int packing, int colours) {
        return Bench.file("BM", little(length), 0, 0, 0, 0, little(54 + 4 * colours), little(40), little(width),
                little(height), 1, 0, depth, 0, little(packing), new int[12], little(colours), new int[4]);
    }

    private static void writePlain() {
        Bench.dueWritten("one pixel", new FourPictureFiles(), 2, 0,
                Bench.file(cleanHead(58, 1, 1, 24, 0, 0), 0, 0, 0, 0));
        Bench.dueWritten("two rows", Bench.picture(3, 2, A, B, C, B, B, A), 2, 0,
                Bench.file(cleanHead(78, 3, 2, 24, 0, 0), 4, 5, 6, 4, 5, 6, 1, 2, 3, 0, 0, 0,
                        1, 2, 3, 4, 5, 6, 7, 8, 9, 0, 0, 0));
        Bench.dueWritten("two columns", Bench.picture(2, 1, A, B), 2, 0,
                Bench.file(cleanHead(62, 2, 1, 24, 0, 0), 1, 2, 3, 4, 5, 6, 0, 0));
        Bench.dueWritten("four columns", Bench.picture(4, 1, A, B, C, A), 2, 0,
                Bench.file(cleanHead(66, 4, 1, 24, 0, 0), 1, 2, 3, 4, 5, 6, 7, 8, 9, 1, 2, 3));
    }

    private static void writePacked() {
        Bench.dueWritten("one pixel", new FourPictureFiles(), 2, 1,
                Bench.file(cleanHead(62, 1, 1, 8, 1, 1), 0, 0, 0, 0, 1, 0, 0, 1));
        Bench.dueWritten("three rows", Bench.picture(3, 3, B, B, A, A, C, A, B, B, B), 2, 1,
                Bench.file(cleanHead(84, 3, 3, 8, 1, 3), 4, 5, 6, 0, 1, 2, 3, 0, 7, 8, 9, 0,
                        3, 0, 0, 0, 1, 1, 1, 2, 1, 1, 0, 0, 2, 0, 1, 1, 0, 1));
        FourPictureFiles x = Bench.picture(8, 8);
        for (int i = 0; i < 64; i++) {
            x.put(i % 8, i / 8, Bench.grey(i * 4));
        }
        Bench.due("64 colours", x.encode(2, 1), 54 + 256 + 144);
        Bench.due("64 colours: length, low byte", x.byteAt(2), 454 & 255);
        Bench.due("64 colours: length, high byte", x.byteAt(3), 1);
        Bench.due("64 colours: beginning", x.byteAt(10) + 256 * x.byteAt(11), 310);
        Bench.due("64 colours: their number", x.byteAt(46), 64);
        int[] pixels = Bench.pixelsOf(x);
        x.make(1, 1);
        Bench.due("64 colours: decode", x.decode(), 2);
        Bench.duePicture("64 colours", x, 8, 8, pixels);
        FourPictureFiles second = Bench.picture(1, 1, A);
        second.encode(2, 1);
        second.put(0, 0, B);
        Bench.dueWritten("colours of an earlier call are gone", second, 2, 1,
                Bench.file(cleanHead(62, 1, 1, 8, 1, 1), 4, 5, 6, 0, 1, 0, 0, 1));
        second.encode(2, 1);
        Bench.dueWritten("plain behind packed", second, 2, 0,
                Bench.file(cleanHead(58, 1, 1, 24, 0, 0), 4, 5, 6, 0));
    }

    private static void readPlain() {
        int[] upward = Bench.file(head(54, 1, 2, 24, 0, 0), 4, 5, 6, 99, 1, 2, 3, 99);
        Bench.dueRead("upward", upward, 2, 1, 2, A, B);
        Bench.dueRead("bytes behind", Bench.file(upward, 1, 2, 3), 2, 1, 2, A, B);
        Bench.dueRead("downward", Bench.file(head(54, 1, -2, 24, 0, 0), 4, 5, 6, 99, 1, 2, 3, 99), 2, 1, 2, B, A);
        Bench.dueRead("passed over", Bench.file(head(57, 1, 1, 24, 0, 0), 9, 9, 9, 1, 2, 3, 0), 2, 1, 1, A);
        Bench.dueRead("two columns", Bench.file(head(54, 2, 1, 24, 0, 0), 1, 2, 3, 4, 5, 6, 0, 0), 2, 2, 1, A, B);
        Bench.dueRead("four columns", Bench.file(head(54, 4, 1, 24, 0, 0), 1, 2, 3, 4, 5, 6, 7, 8, 9, 1, 2, 3), 2,
                4, 1, A, B, C, A);
        Bench.dueRead("eight rows down", Bench.file(head(54, 1, -8, 24, 0, 0), 1, 2, 3, 0, new int[28]), 2, 1, 8,
                A, 255, 255, 255, 255, 255, 255, 255);
        Bench.dueShortBeginnings("upward", upward, 2);
        Bench.dueShortBeginnings("passed over", Bench.file(head(60, 1, 1, 24, 0, 0), new int[10]), 2);
    }

    private static void readNumbers() {
        int[] upward = numbers(3, 2, 0, 1, 2, 99, 2, 2, 0, 99);
        Bench.dueRead("numbers upward", upward, 2, 3, 2, C, C, A, A, B, C);
        Bench.dueRead("numbers downward", numbers(3, -2, 0, 1, 2, 99, 2, 2, 0, 99), 2, 3, 2, A, B, C, C, C, A);
        Bench.dueRead("five columns", numbers(5, 1, 0, 1, 2, 1, 0, 99, 99, 99), 2, 5, 1, A, B, C, B, A);
        Bench.dueRead("four columns", numbers(4, 1, 0, 1, 2, 1), 2, 4, 1, A, B, C, B);
        Bench.dueRead("bytes behind numbers", numbers(4, 1, 0, 1, 2, 1, 99), 2, 4, 1, A, B, C, B);
        Bench.dueShortBeginnings("numbers", upward, 2);
        Bench.dueBroken("a number without a colour", numbers(3, 2, 0, 1, 3, 99, 2, 2, 0, 99));
        Bench.dueBroken("a number without a colour, cut", numbers(3, 2, 0, 255));
        int[] most = Bench.file(head(310, 1, 1, 8, 0, 64), new int[252], 1, 2, 3, 0, 63, 0, 0, 0);
        Bench.dueRead("64 colours", most, 2, 1, 1, A);
        Bench.dueBroken("the colour 64", Bench.with(most, 310, 64));
        Bench.dueRead("passed over behind the colours", Bench.file(head(60, 1, 1, 8, 0, 1), 1, 2, 3, 4, 5, 6, 0, 7, 7, 7),
                2, 1, 1, A);
    }

    private static void readPacked() {
        int[] pairs = packed(3, 2, 2, 1, 1, 2, 0, 0, 3, 1, 0, 1);
        Bench.dueRead("pairs", pairs, 2, 3, 2, B, B, B, B, B, C);
        Bench.dueShortBeginnings("pairs", pairs, 2);
        Bench.dueRead("bytes behind", Bench.file(pairs, 9, 9), 2, 3, 2, B, B, B, B, B, C);
        Bench.dueRead("complete at once", packed(2, 2, 0, 1), 2, 2, 2, A, A, A, A);
        Bench.dueRead("colour 0 is the first one", packed(3, 1, 1, 2, 0, 1), 2, 3, 1, C, A, A);
        Bench.dueRead("even bytes", packed(4, 1, 0, 4, 2, 1, 0, 1, 0, 1), 2, 4, 1, C, B, A, B);
        int[] odd = packed(4, 1, 0, 3, 2, 1, 1, 99, 1, 2, 0, 1);
        Bench.dueRead("odd bytes", odd, 2, 4, 1, C, B, B, C);
        Bench.dueShortBeginnings("odd bytes", odd, 2);
        Bench.dueRead("a row without an end", packed(2, 2, 1, 1, 0, 0, 1, 2, 0, 1), 2, 2, 2, C, A, B, A);
        Bench.dueRead("behind the last row", packed(2, 1, 2, 1, 0, 0, 0, 1), 2, 2, 1, B, B);
        Bench.dueBroken("from the top down", packed(2, -1, 2, 1, 0, 1));
    }

    private static void readPackedMoves() {
        int[] move = packed(3, 3, 0, 2, 1, 1, 1, 1, 0, 2, 0, 1, 1, 2, 0, 1);
        Bench.dueRead("moves", move, 2, 3, 3, A, A, C, A, B, A, A, A, A);
        Bench.dueShortBeginnings("moves", move, 2);
        Bench.dueRead("no move", packed(2, 1, 0, 2, 0, 0, 1, 1, 0, 1), 2, 2, 1, B, A);
        Bench.dueRead("to the right end", packed(2, 2, 0, 2, 2, 0, 0, 0, 1, 1, 0, 1), 2, 2, 2, B, A, A, A);
        Bench.dueRead("above the top", packed(2, 2, 0, 2, 2, 2, 0, 1), 2, 2, 2, A, A, A, A);
        Bench.dueRead("two moves", packed(2, 2, 0, 2, 1, 0, 0, 2, 1, 2, 0, 1), 2, 2, 2, A, A, A, A);
        Bench.dueBroken("too far to the right", packed(2, 2, 0, 2, 3, 0, 0, 1));
        Bench.dueBroken("too far up", packed(2, 2, 0, 2, 0, 3, 0, 1));
        Bench.dueBroken("too far by two moves", packed(2, 2, 0, 2, 1, 0, 0, 2, 2, 0, 0, 1));
        Bench.dueBroken("too far up by rows", packed(2, 2, 0, 0, 0, 0, 0, 0, 0, 1));
        Bench.dueRead("up by rows", packed(2, 2, 0, 0, 0, 0, 0, 1), 2, 2, 2, A, A, A, A);
        Bench.dueBroken("too far by row and move", packed(2, 2, 0, 0, 0, 2, 0, 2, 0, 1));
        Bench.dueBroken("looked at with both bytes", packed(2, 2, 0, 2, 3, 0));
        Bench.dueShort("not looked at before", packed(2, 2, 0, 2, 3));
    }

    private static void headerFaults() {
        int[] good = Bench.file(head(54, 1, 1, 24, 0, 0), 1, 2, 3, 0);
        Bench.dueRead("the good file", good, 2, 1, 1, A);
        int[][] wrong = {{14, 41}, {14, 39}, {15, 1}, {16, 1}, {17, 1}, {18, 0}, {18, 9}, {19, 1}, {20, 1}, {21, 128},
            {22, 0}, {22, 9}, {23, 1}, {24, 1}, {25, 128}, {26, 0}, {26, 2}, {27, 1}, {28, 0}, {28, 1}, {28, 4},
            {28, 16}, {28, 32}, {29, 1}, {30, 1}, {30, 2}, {31, 1}, {32, 1}, {33, 1}, {46, 1}, {47, 1}, {48, 1}, {49, 1}};
        for (int[] change : wrong) {
            Bench.dueBroken("byte " + change[0] + " " + change[1], Bench.with(good, change[0], change[1]));
        }
        int[] numbersOfBytes = {4, 4, 4, 2, 2, 4};
        int place = 14;
        for (int n : numbersOfBytes) {
            int[] beginning = java.util.Arrays.copyOf(good, place + n);
            java.util.Arrays.fill(beginning, place, place + n, 77);
            Bench.dueBroken("wrong number, then nothing, at " + place, beginning);
            Bench.dueShort("wrong number not yet read at " + place, Bench.without(beginning, 1));
            place += n;
        }
        int[] heights = {-9, Integer.MIN_VALUE, Integer.MIN_VALUE + 1, Integer.MAX_VALUE, 9, 0};
        for (int height : heights) {
            Bench.dueBroken("height " + height, Bench.file(head(54, 1, height, 24, 0, 0), new int[60]));
        }
        Bench.dueBroken("negative width", Bench.file(head(54, -1, 1, 24, 0, 0), new int[60]));
    }

    private static void beginningFaults() {
        int[] pixel = {1, 2, 3, 0};
        int[] wrong = {53, 0, 801, -1, Integer.MIN_VALUE, Integer.MAX_VALUE, 54 + 65536};
        for (int beginning : wrong) {
            Bench.dueBroken("beginning " + beginning, Bench.file(head(beginning, 1, 1, 24, 0, 0), pixel));
            Bench.dueBroken("beginning, then nothing", head(beginning, 1, 1, 24, 0, 0));
            Bench.dueShort("beginning not yet looked at", Bench.without(head(beginning, 1, 1, 24, 0, 0), 1));
        }
        Bench.dueBroken("beginning before the colours", Bench.file(head(65, 1, 1, 8, 0, 3), COLOURS, 0, 0, 0, 0));
        Bench.dueShort("looked at behind the colours", Bench.file(head(0, 1, 1, 8, 0, 3), Bench.without(COLOURS, 1)));
        Bench.dueShort("beginning 800", Bench.file(head(800, 1, 1, 24, 0, 0), pixel));
        int[] late = Bench.file(head(796, 1, 1, 24, 0, 0), new int[742], pixel);
        Bench.dueRead("at the very end", late, 2, 1, 1, A);
        Bench.dueShort("beyond the very end", Bench.file(head(800, 1, 1, 24, 0, 0), new int[742], pixel));
    }

    private static void colourFaults() {
        Bench.dueBroken("no colours", Bench.file(head(54, 1, 1, 8, 0, 0), new int[300]));
        Bench.dueBroken("no colours, packed", Bench.file(head(54, 1, 1, 8, 1, 0), 0, 1));
        Bench.dueBroken("no colours, then nothing", Bench.without(head(54, 1, 1, 8, 0, 0), 4));
        Bench.dueBroken("65 colours", Bench.file(head(54, 1, 1, 8, 0, 65), new int[300]));
        Bench.dueBroken("negative colours", Bench.file(head(54, 1, 1, 8, 0, -1), new int[300]));
        Bench.dueBroken("colours with depth 24", Bench.file(head(58, 1, 1, 24, 0, 1), new int[300]));
        Bench.dueBroken("packing 2", Bench.file(head(66, 1, 1, 8, 2, 3), COLOURS, 0, 1));
        Bench.dueBroken("packing 1 with depth 24", Bench.file(head(54, 1, 1, 24, 1, 0), 0, 1));
    }

    private static void readTwice() {
        int[] file = packed(2, 2, 1, 1, 0, 0, 1, 2, 0, 1);
        FourPictureFiles x = new FourPictureFiles();
        Bench.feed(x, file);
        Bench.due("the first time", x.decode(), 2);
        x.put(0, 0, 0);
        Bench.due("the second time", x.decode(), 2);
        Bench.duePicture("the second time", x, 2, 2, C, A, B, A);
    }

    private static void packedFaults() {
        Bench.dueBroken("a pixel too many", packed(3, 2, 4, 1, 0, 1));
        Bench.dueBroken("a pixel too many in two pairs", packed(3, 2, 3, 1, 1, 1, 0, 1));
        Bench.dueBroken("a pixel above the top", packed(2, 1, 0, 0, 1, 1, 0, 1));
        Bench.dueBroken("a pixel above the top in bytes", packed(3, 1, 0, 0, 0, 3, 1, 1, 1, 0, 0, 1));
        Bench.dueBroken("a colour that is not there", packed(3, 2, 1, 3, 0, 1));
        Bench.dueBroken("a colour that is not there, then nothing", packed(3, 2, 1, 3));
        Bench.dueBroken("a colour that is not there in bytes", packed(3, 2, 0, 3, 0, 1, 3, 0, 0, 1));
        Bench.dueBroken("the first colour is not there, then nothing", packed(3, 2, 0, 3, 9));
        Bench.dueBroken("bytes beyond the row", packed(3, 2, 0, 4, 0, 1, 2, 0, 0, 1));
        Bench.dueBroken("the longest piece", packed(8, 8, 255, 0, 0, 1));
        Bench.dueShort("n without c", packed(3, 2, 4));
        Bench.dueShort("no end", packed(1, 1, 1, 1));
        Bench.dueShort("the odd byte missing", packed(3, 1, 0, 3, 1, 1, 1));
        int[] idle = new int[734];
        for (int i = 0; i < 732; i += 4) {
            idle[i + 1] = 2;
        }
        idle[733] = 1;
        Bench.dueRead("many moves that go nowhere", packed(1, 1, idle), 2, 1, 1, A);
    }
}
