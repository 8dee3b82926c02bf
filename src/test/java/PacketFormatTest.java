/** Promises 14 and 15 with format 3. */
public final class PacketFormatTest {
    private static final int A = Bench.rgb(3, 2, 1);
    private static final int B = Bench.rgb(6, 5, 4);
    private static final int C = Bench.rgb(9, 8, 7);
    private static final int D = Bench.rgb(12, 11, 10);

    public static void main(String[] args) {
        writePlain();
        writePackets();
        readPlain();
        readOrders();
        readPackets();
        headerFaults();
        packetFaults();
        Bench.end();
    }

    /** A header with other bytes where nothing is said of them. */
    private static int[] head(int kind, int width, int height, int depth, int flags) {
        return Bench.file(0, 0, kind, 91, 92, 93, 94, 95, 96, 97, 98, 99, width, 0, height, 0, depth, flags);
    }

    private static int[] cleanHead(int kind, int width, int height, int depth, int flags) {
        return Bench.file(0, 0, kind, new int[9], width, 0, height, 0, depth, flags);
    }

    private static void writePlain() {
        Bench.dueWritten("a new object", new FourPictureFiles(), 3, 0, Bench.file(cleanHead(3, 1, 1, 8, 32), 0));
        Bench.dueWritten("grey", Bench.picture(2, 2, Bench.grey(1), Bench.grey(2), Bench.grey(3), Bench.grey(255)), 3, 0,
                Bench.file(cleanHead(3, 2, 2, 8, 32), 1, 2, 3, 255));
        Bench.dueWritten("opaque", Bench.picture(1, 2, A, Bench.grey(7)), 3, 0,
                Bench.file(cleanHead(2, 1, 2, 24, 32), 1, 2, 3, 7, 7, 7));
        Bench.dueWritten("not opaque", Bench.picture(2, 1, Bench.rgba(1, 2, 3, 0), A), 3, 0,
                Bench.file(cleanHead(2, 2, 1, 32, 40), 3, 2, 1, 0, 1, 2, 3, 255));
        Bench.dueWritten("grey, but not opaque", Bench.picture(1, 1, Bench.rgba(5, 5, 5, 254)), 3, 0,
                Bench.file(cleanHead(2, 1, 1, 32, 40), 5, 5, 5, 254));
    }

    private static void duePackets(String what, int[] greys, int... packets) {
        int[] pixels = new int[greys.length];
        for (int i = 0; i < greys.length; i++) {
            pixels[i] = Bench.grey(greys[i]);
        }
        Bench.dueWritten(what, Bench.picture(greys.length, 1, pixels), 3, 1,
                Bench.file(cleanHead(11, greys.length, 1, 8, 32), packets));
    }

    private static int[] row(int... greys) {
        return greys;
    }

    private static void writePackets() {
        duePackets("one", row(4), 0, 4);
        duePackets("two the same", row(4, 4), 129, 4);
        duePackets("two others", row(4, 5), 1, 4, 5);
        duePackets("same, other", row(4, 4, 5), 129, 4, 0, 5);
        duePackets("other, same", row(5, 4, 4), 0, 5, 129, 4);
        duePackets("same, same", row(4, 4, 5, 5, 5), 129, 4, 130, 5);
        duePackets("same, others, same", row(4, 4, 1, 2, 1, 5, 5), 129, 4, 2, 1, 2, 1, 129, 5);
        duePackets("eight the same", row(9, 9, 9, 9, 9, 9, 9, 9), 135, 9);
        duePackets("eight others", row(1, 2, 3, 4, 5, 6, 7, 8), 7, 1, 2, 3, 4, 5, 6, 7, 8);
        Bench.dueWritten("packets keep to rows", Bench.picture(2, 3, A, A, A, B, B, B), 3, 1,
                Bench.file(cleanHead(10, 2, 3, 24, 32), 129, 1, 2, 3, 1, 1, 2, 3, 4, 5, 6, 129, 4, 5, 6));
        Bench.dueWritten("alpha counts", Bench.picture(3, 1, 0x01020304, 0x01020305, 0x01020305), 3, 1,
                Bench.file(cleanHead(10, 3, 1, 32, 40), 0, 3, 2, 1, 4, 129, 3, 2, 1, 5));
    }

    private static void readPlain() {
        int[] coloured = Bench.file(head(2, 2, 1, 24, 32), 1, 2, 3, 4, 5, 6);
        Bench.dueRead("B G R", coloured, 3, 2, 1, A, B);
        Bench.dueRead("bytes behind", Bench.file(coloured, 9), 3, 2, 1, A, B);
        Bench.dueShortBeginnings("B G R", coloured, 18);
        int[] withAlpha = Bench.file(head(2, 2, 1, 32, 40), 1, 2, 3, 4, 5, 6, 7, 0);
        Bench.dueRead("B G R A", withAlpha, 3, 2, 1, Bench.rgba(3, 2, 1, 4), Bench.rgba(7, 6, 5, 0));
        Bench.dueShortBeginnings("B G R A", withAlpha, 18);
        int[] grey = Bench.file(head(3, 1, 3, 8, 32), 1, 2, 255);
        Bench.dueRead("grey", grey, 3, 1, 3, Bench.grey(1), Bench.grey(2), Bench.grey(255));
        Bench.dueShortBeginnings("grey", grey, 18);
        int[] passed = Bench.with(Bench.file(head(3, 1, 1, 8, 0), 7, 8, 9, 5), 0, 3);
        Bench.dueRead("L bytes", passed, 3, 1, 1, Bench.grey(5));
        Bench.dueShortBeginnings("L bytes", passed, 18);
        Bench.dueRead("255 bytes", Bench.with(Bench.file(head(3, 1, 1, 8, 0), new int[255], 5), 0, 255), 3, 1, 1,
                Bench.grey(5));
    }

    private static void readOrders() {
        int[] pixels = {1, 2, 3, 4, 5, 6, 7, 8, 9, 10, 11, 12};
        Bench.dueRead("down, right", Bench.file(head(2, 2, 2, 24, 32), pixels), 3, 2, 2, A, B, C, D);
        Bench.dueRead("up, right", Bench.file(head(2, 2, 2, 24, 0), pixels), 3, 2, 2, C, D, A, B);
        Bench.dueRead("down, left", Bench.file(head(2, 2, 2, 24, 48), pixels), 3, 2, 2, B, A, D, C);
        Bench.dueRead("up, left", Bench.file(head(2, 2, 2, 24, 16), pixels), 3, 2, 2, D, C, B, A);
    }

    private static void readPackets() {
        int[] mixed = Bench.file(head(10, 3, 2, 24, 32), 130, 1, 2, 3, 2, 4, 5, 6, 7, 8, 9, 10, 11, 12);
        Bench.dueRead("mixed", mixed, 3, 3, 2, A, A, A, B, C, D);
        Bench.dueShortBeginnings("mixed", mixed, 18);
        Bench.dueRead("bytes behind", Bench.file(mixed, 255, 9), 3, 3, 2, A, A, A, B, C, D);
        Bench.dueRead("beyond a row", Bench.file(head(11, 2, 2, 8, 0), 0, 9, 130, 5), 3, 2, 2,
                Bench.grey(5), Bench.grey(5), Bench.grey(9), Bench.grey(5));
        Bench.dueRead("others beyond a row", Bench.file(head(11, 2, 2, 8, 48), 128, 9, 2, 5, 6, 7), 3, 2, 2,
                Bench.grey(5), Bench.grey(9), Bench.grey(7), Bench.grey(6));
        Bench.dueRead("one pixel once", Bench.file(head(11, 2, 1, 8, 32), 128, 9, 128, 8), 3, 2, 1,
                Bench.grey(9), Bench.grey(8));
        Bench.dueRead("with alpha", Bench.file(head(10, 2, 1, 32, 40), 129, 1, 2, 3, 4), 3, 2, 1, 0x03020104, 0x03020104);
        int[] all = new int[64];
        java.util.Arrays.fill(all, Bench.grey(6));
        Bench.dueRead("64 in one", Bench.file(head(11, 8, 8, 8, 32), 191, 6), 3, 8, 8, all);
        readTwice(mixed);
    }

    private static void readTwice(int[] mixed) {
        FourPictureFiles x = new FourPictureFiles();
        Bench.feed(x, Bench.file(head(11, 8, 8, 8, 32), 191));
        Bench.due("left open", x.decode(), FourPictureFiles.SHORT);
        x.cut(0);
        Bench.feed(x, mixed);
        Bench.due("behind one left open", x.decode(), 3);
        Bench.duePicture("behind one left open", x, 3, 2, A, A, A, B, C, D);
        x.cut(0);
        Bench.feed(x, Bench.file(head(11, 2, 1, 8, 32), 129, 6));
        Bench.due("the same twice", x.decode(), 3);
        x.cut(0);
        Bench.feed(x, Bench.file(head(3, 2, 1, 8, 32), 7, 8));
        Bench.due("plain behind packets", x.decode(), 3);
        Bench.duePicture("plain behind packets", x, 2, 1, Bench.grey(7), Bench.grey(8));
    }

    private static void headerFaults() {
        int[] good = Bench.file(head(2, 1, 1, 24, 0), 1, 2, 3);
        int[][] wrong = {{12, 0}, {12, 9}, {13, 1}, {14, 0}, {14, 9}, {15, 1}};
        for (int[] change : wrong) {
            int[] file = Bench.with(good, change[0], change[1]);
            Bench.dueBroken("byte " + change[0] + " " + change[1], file);
            Bench.dueBroken("the same, then nothing", Bench.without(file, 3));
        }
        for (int flags = 0; flags < 256; flags++) {
            boolean plain = (flags & 0xCF) == 0;
            boolean alpha = (flags & 0xCF) == 8;
            dueFlags(head(2, 1, 1, 24, flags), new int[] {1, 2, 3}, plain, A);
            dueFlags(head(3, 1, 1, 8, flags), new int[] {1}, plain, Bench.grey(1));
            dueFlags(head(2, 1, 1, 32, flags), new int[] {1, 2, 3, 4}, alpha, 0x03020104);
            dueFlags(head(10, 1, 1, 32, flags), new int[] {0, 1, 2, 3, 4}, alpha, 0x03020104);
        }
    }

    private static void dueFlags(int[] head, int[] bytes, boolean isGood, int pixel) {
        if (isGood) {
            Bench.dueRead("flags " + head[17], Bench.file(head, bytes), 3, 1, 1, pixel);
        } else {
            Bench.dueBroken("flags " + head[17], Bench.file(head, bytes));
            Bench.dueBroken("flags, then nothing", head);
            Bench.dueBroken("flags before L bytes", Bench.with(head, 0, 9));
        }
    }

    private static void packetFaults() {
        Bench.dueBroken("one too many", Bench.file(head(11, 2, 2, 8, 32), 132, 6));
        Bench.dueBroken("one too many, then nothing", Bench.file(head(11, 2, 2, 8, 32), 132));
        Bench.dueBroken("one other too many", Bench.file(head(11, 2, 2, 8, 32), 4, 1, 2, 3, 4, 5));
        Bench.dueBroken("one other too many, then nothing", Bench.file(head(11, 2, 2, 8, 32), 4));
        Bench.dueBroken("in the second packet", Bench.file(head(11, 2, 2, 8, 32), 130, 6, 129, 6));
        Bench.dueShort("no second packet", Bench.file(head(11, 2, 2, 8, 32), 130, 6));
        Bench.dueShort("no pixel", Bench.file(head(11, 2, 2, 8, 32), 131));
        Bench.dueBroken("128 the same", Bench.file(head(11, 8, 8, 8, 32), 255, 6));
        Bench.dueBroken("128 others", Bench.file(head(11, 8, 8, 8, 32), 127, new int[128]));
        Bench.dueBroken("65 the same", Bench.file(head(11, 8, 8, 8, 32), 192, 6));
    }
}
