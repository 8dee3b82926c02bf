import java.util.Arrays;

/** Format 3, read and written. */
public final class PacketFormatTest {
    private static final int A = Bench.rgb(3, 2, 1);
    private static final int B = Bench.rgb(6, 5, 4);
    private static final int C = Bench.rgb(9, 8, 7);
    private static final int D = Bench.rgb(12, 11, 10);

    public static void main(String[] args) {
        Bench.run(PacketFormatTest.class);
    }

    /** A header with other bytes where nothing is said of them. */
    private static int[] head(int kind, int width, int height, int depth, int flags) {
        return Bench.file(0, 0, kind, 91, 92, 93, 94, 95, 96, 97, 98, 99, width, 0, height, 0, depth, flags);
    }

    private static int[] writtenHead(int kind, int width, int height, int depth, int flags) {
        return Bench.file(0, 0, kind, new int[9], width, 0, height, 0, depth, flags);
    }

    private static void dueRead(String what, int[] file, int width, int height, int... pixels) {
        Bench.dueRead(what, file, 3, width, height, pixels);
    }

    @Holds("FORMAT 3. Byte 0 the length L; the bytes 1 and 2 as said; 9 bytes;")
    static void firstBytes() {
        int[] lengths = {0, 1, 2, 127, 128, 254, 255};
        for (int length : lengths) {
            int[] file = Bench.with(Bench.file(head(3, 1, 1, 8, 0), Bench.filled(length, 77), 5), 0, length);
            dueRead("L is " + length, file, 1, 1, Bench.grey(5));
            Bench.dueShort("L is " + length + ", a byte less", Bench.without(file, 1));
        }
        int[] file = Bench.file(head(3, 1, 1, 8, 0), 5);
        for (int k = 3; k < 12; k++) {
            dueRead("byte " + k + " is 0", Bench.with(file, k, 0), 1, 1, Bench.grey(5));
            dueRead("byte " + k + " is 255", Bench.with(file, k, 255), 1, 1, Bench.grey(5));
        }
        Bench.dueFault("byte 1 is 1", Bench.with(file, 1, 1), FourPictureFiles.UNKNOWN);
        Bench.dueFault("byte 2 is 1", Bench.with(file, 2, 1), FourPictureFiles.UNKNOWN);
        Bench.dueFault("byte 2 is 4", Bench.with(file, 2, 4), FourPictureFiles.UNKNOWN);
        Bench.dueFault("byte 2 is 9", Bench.with(file, 2, 9), FourPictureFiles.UNKNOWN);
        Bench.dueFault("byte 2 is 12", Bench.with(file, 2, 12), FourPictureFiles.UNKNOWN);
    }

    @Holds("LITTLE 2 the width; LITTLE 2 the height; byte 16 as said;")
    static void sides() {
        int[] wrong = {0, 9, 10, 255, 256, 257, 264, 0x8001, 0xFFFF};
        int[] pixels = new int[64];
        for (int side : wrong) {
            int[] bytes = {side & 255, side >>> 8};
            Bench.dueBroken("width " + side, Bench.file(Bench.with(head(3, 1, 1, 8, 0), 12, bytes), pixels));
            Bench.dueBroken("width " + side + ", then nothing", Bench.with(head(3, 1, 1, 8, 0), 12, bytes));
            Bench.dueBroken("height " + side, Bench.file(Bench.with(head(3, 1, 1, 8, 0), 14, bytes), pixels));
            Bench.dueBroken("height " + side + ", then nothing", Bench.with(head(3, 1, 1, 8, 0), 14, bytes));
        }
        for (int side = 1; side <= 8; side++) {
            int[] greys = Bench.filled(side, Bench.grey(7));
            dueRead("width " + side, Bench.file(head(3, side, 1, 8, 0), Bench.filled(side, 7)), side, 1, greys);
            dueRead("height " + side, Bench.file(head(3, 1, side, 8, 0), Bench.filled(side, 7)), 1, side, greys);
            Bench.dueShort("a pixel less", Bench.file(head(3, side, 1, 8, 0), Bench.filled(side - 1, 7)));
        }
        int[] noDepths = {0, 7, 9, 15, 16, 23, 25, 31, 33, 255};
        for (int depth : noDepths) {
            Bench.dueFault("byte 16 is " + depth, Bench.file(head(2, 1, 1, depth, 0), 1, 2, 3),
                    FourPictureFiles.UNKNOWN);
            Bench.dueFault("byte 16 is " + depth, Bench.file(head(11, 1, 1, depth, 0), 0, 1), FourPictureFiles.UNKNOWN);
        }
        Bench.dueFault("2 with 8", Bench.file(head(2, 1, 1, 8, 0), 1, 2, 3), FourPictureFiles.UNKNOWN);
        Bench.dueFault("3 with 24", Bench.file(head(3, 1, 1, 24, 0), 1, 2, 3), FourPictureFiles.UNKNOWN);
    }

    @Holds("byte 17: its lowest four bits are 8 with byte 16 = 32 and else 0, its highest two bits are 0;")
    static void flags() {
        for (int flags = 0; flags < 256; flags++) {
            boolean plain = (flags & 0xCF) == 0;
            boolean alpha = (flags & 0xCF) == 8;
            dueFlags(head(2, 1, 1, 24, flags), Bench.row(1, 2, 3), plain, A);
            dueFlags(head(10, 1, 1, 24, flags), Bench.row(128, 1, 2, 3), plain, A);
            dueFlags(head(3, 1, 1, 8, flags), Bench.row(1), plain, Bench.grey(1));
            dueFlags(head(11, 1, 1, 8, flags), Bench.row(0, 1), plain, Bench.grey(1));
            dueFlags(head(2, 1, 1, 32, flags), Bench.row(1, 2, 3, 4), alpha, 0x03020104);
            dueFlags(head(10, 1, 1, 32, flags), Bench.row(0, 1, 2, 3, 4), alpha, 0x03020104);
        }
    }

    private static void dueFlags(int[] head, int[] bytes, boolean isGood, int pixel) {
        String what = "byte 17 is " + head[17] + " with " + head[16];
        if (isGood) {
            dueRead(what, Bench.file(head, bytes), 1, 1, pixel);
            Bench.dueShort(what + ", then nothing", head);
        } else {
            Bench.dueBroken(what, Bench.file(head, bytes));
            Bench.dueBroken(what + ", then nothing", head);
            Bench.dueBroken(what + ", before L bytes", Bench.with(head, 0, 9));
        }
    }

    /** 2 by 2 pixels in each kind, which stand in the file as A B, C D. */
    private static void dueOrder(int flags, int... pixels) {
        int[] bytes = {1, 2, 3, 4, 5, 6, 7, 8, 9, 10, 11, 12};
        dueRead("B G R", Bench.file(head(2, 2, 2, 24, flags), bytes), 2, 2, pixels);
        dueRead("packets", Bench.file(head(10, 2, 2, 24, flags), 3, bytes), 2, 2, pixels);
        int[] withAlpha = {1, 2, 3, 255, 4, 5, 6, 255, 7, 8, 9, 255, 10, 11, 12, 255};
        dueRead("B G R A", Bench.file(head(2, 2, 2, 32, flags + 8), withAlpha), 2, 2, pixels);
        dueRead("packets with alpha", Bench.file(head(10, 2, 2, 32, flags + 8), 3, withAlpha), 2, 2, pixels);
    }

    @Holds("bit 4: columns stand from the right to the left;")
    static void columns() {
        dueOrder(32, A, B, C, D);
        dueOrder(48, B, A, D, C);
        for (int width = 1; width <= 8; width++) {
            int[] bytes = new int[width];
            int[] leftward = new int[width];
            for (int k = 0; k < width; k++) {
                bytes[k] = k + 1;
                leftward[width - 1 - k] = k + 1;
            }
            dueRead("rightward", Bench.file(head(3, width, 1, 8, 32), bytes), width, 1, Bench.greys(bytes));
            dueRead("leftward", Bench.file(head(3, width, 1, 8, 48), bytes), width, 1, Bench.greys(leftward));
        }
    }

    @Holds("bit 5: rows stand from the top down (else from the lowest up);")
    static void rows() {
        dueOrder(0, C, D, A, B);
        dueOrder(16, D, C, B, A);
        for (int height = 1; height <= 8; height++) {
            int[] bytes = new int[height];
            int[] upward = new int[height];
            for (int k = 0; k < height; k++) {
                bytes[k] = k + 1;
                upward[height - 1 - k] = k + 1;
            }
            dueRead("downward", Bench.file(head(3, 1, height, 8, 32), bytes), 1, height, Bench.greys(bytes));
            dueRead("upward", Bench.file(head(3, 1, height, 8, 0), bytes), 1, height, Bench.greys(upward));
        }
    }

    @Holds("(else from the lowest up); L bytes;")
    static void passedBytes() {
        int[] file = Bench.with(Bench.file(head(2, 1, 1, 24, 32), 77, 78, 79, 1, 2, 3), 0, 3);
        dueRead("3 bytes", file, 1, 1, A);
        Bench.dueShortBeginnings("3 bytes", file, 18);
        dueRead("2 bytes", Bench.with(file, 0, 2), 1, 1, Bench.rgb(2, 1, 79));
        Bench.dueShort("4 bytes", Bench.with(file, 0, 4));
        int[] packets = Bench.with(Bench.file(head(10, 1, 1, 24, 32), 255, 128, 1, 2, 3), 0, 1);
        dueRead("a byte before a packet", packets, 1, 1, A);
        Bench.dueBroken("the same without it", Bench.with(packets, 0, 0));
        int[] most = Bench.with(Bench.file(head(2, 1, 1, 24, 32), Bench.filled(255, 88), 1, 2, 3), 0, 255);
        dueRead("255 bytes", most, 1, 1, A);
        Bench.dueShort("254 of 255 bytes", Arrays.copyOf(most, 18 + 254));
        Bench.dueShort("255 of 255 bytes, and no pixel", Arrays.copyOf(most, 18 + 255));
    }

    @Holds("then the pixels row by row: with byte 2 = 2 or 3 each one, B G R, B G R A or one byte for R, G, B.")
    static void plainPixels() {
        int[] coloured = Bench.file(head(2, 2, 1, 24, 32), 1, 2, 3, 4, 5, 6);
        dueRead("B G R", coloured, 2, 1, A, B);
        Bench.dueShortBeginnings("B G R", coloured, 18);
        int[] withAlpha = Bench.file(head(2, 3, 1, 32, 40), 1, 2, 3, 4, 5, 6, 7, 0, 8, 9, 10, 255);
        dueRead("B G R A", withAlpha, 3, 1, 0x03020104, 0x07060500, Bench.rgb(10, 9, 8));
        Bench.dueShortBeginnings("B G R A", withAlpha, 18);
        int[] grey = Bench.file(head(3, 1, 4, 8, 32), 0, 1, 128, 255);
        dueRead("one byte", grey, 1, 4, Bench.greys(0, 1, 128, 255));
        Bench.dueShortBeginnings("one byte", grey, 18);
        int[] all = Bench.file(head(3, 8, 8, 8, 32), Bench.filled(64, 9));
        dueRead("64 pixels", all, 8, 8, Bench.filled(64, Bench.grey(9)));
        Bench.dueShort("63 pixels of 64", Bench.without(all, 1));
        int[] allWithAlpha = Bench.file(head(2, 8, 8, 32, 40), Bench.filled(256, 9));
        dueRead("64 pixels with alpha", allWithAlpha, 8, 8, Bench.filled(64, 0x09090909));
        Bench.dueShort("64 pixels with alpha, a byte less", Bench.without(allWithAlpha, 1));
    }

    @Holds("With 10 or 11 in PACKETS until all are there: a byte p;")
    static void packets() {
        int[] mixed = Bench.file(head(10, 3, 2, 24, 32), 130, 1, 2, 3, 2, 4, 5, 6, 7, 8, 9, 10, 11, 12);
        dueRead("two packets", mixed, 3, 2, A, A, A, B, C, D);
        Bench.dueShortBeginnings("two packets", mixed, 18);
        int[] singles = Bench.file(head(11, 4, 1, 8, 32), 0, 1, 128, 2, 0, 3, 128, 4);
        dueRead("a packet each", singles, 4, 1, Bench.greys(1, 2, 3, 4));
        Bench.dueShortBeginnings("a packet each", singles, 18);
        Bench.dueShort("no packet", head(11, 1, 1, 8, 32));
        Bench.dueShort("a packet too few", Bench.file(head(11, 2, 2, 8, 32), 130, 6));
        Story open = Bench.fed(Bench.file(head(11, 8, 8, 8, 32), 191)).and(Subject::decode, FourPictureFiles.SHORT)
                .and(x -> x.cut(0));
        Story behind = x -> {
            open.tell(x);
            Bench.fed(mixed).tell(x);
        };
        Bench.dueState("behind a packet left open", behind.and(Subject::decode, 3), 3, 2, Bench.row(A, A, A, B, C, D),
                mixed);
        int[] plain = Bench.file(head(3, 2, 1, 8, 32), 7, 8);
        Story plainBehind = x -> {
            open.tell(x);
            Bench.fed(plain).tell(x);
        };
        Bench.dueState("without packets behind one left open", plainBehind.and(Subject::decode, 3), 2, 1,
                Bench.greys(7, 8), plain);
    }

    @Holds("p above 127: one pixel, that stands p - 127 times;")
    static void repeated() {
        for (int n = 1; n <= 64; n++) {
            int[] rest = new int[0];
            for (int k = n; k < 64; k++) {
                rest = Bench.file(rest, 128, 5);
            }
            dueRead(n + " times", Bench.file(head(11, 8, 8, 8, 32), 127 + n, 6, rest), 8, 8,
                    Bench.file(Bench.filled(n, Bench.grey(6)), Bench.filled(64 - n, Bench.grey(5))));
        }
        dueRead("128 is once", Bench.file(head(11, 2, 1, 8, 32), 128, 9, 128, 8), 2, 1, Bench.greys(9, 8));
        dueRead("with alpha", Bench.file(head(10, 2, 1, 32, 40), 129, 1, 2, 3, 4), 2, 1, 0x03020104, 0x03020104);
        dueRead("B G R", Bench.file(head(10, 2, 1, 24, 32), 129, 1, 2, 3), 2, 1, A, A);
        Bench.dueShort("no pixel", Bench.file(head(11, 2, 2, 8, 32), 131));
        Bench.dueShort("half a pixel", Bench.file(head(10, 2, 2, 24, 32), 131, 1, 2));
        Bench.dueShort("no alpha", Bench.file(head(10, 2, 2, 32, 40), 131, 1, 2, 3));
    }

    @Holds("else p + 1 pixels;")
    static void others() {
        for (int n = 1; n <= 64; n++) {
            int[] bytes = new int[64];
            for (int k = 0; k < 64; k++) {
                bytes[k] = 3 * k;
            }
            int[] rest = new int[0];
            for (int k = n; k < 64; k++) {
                rest = Bench.file(rest, 0, bytes[k]);
            }
            dueRead(n + " pixels", Bench.file(head(11, 8, 8, 8, 32), n - 1, Arrays.copyOf(bytes, n), rest), 8, 8,
                    Bench.greys(bytes));
        }
        dueRead("0 is one", Bench.file(head(10, 1, 1, 24, 32), 0, 1, 2, 3), 1, 1, A);
        dueRead("1 is two", Bench.file(head(10, 2, 1, 24, 32), 1, 1, 2, 3, 4, 5, 6), 2, 1, A, B);
        Bench.dueShort("one of two", Bench.file(head(10, 2, 1, 24, 32), 1, 1, 2, 3));
        Bench.dueShort("no pixel", Bench.file(head(10, 1, 1, 24, 32), 0));
    }

    @Holds("packets may go beyond a row's end, but one that has more pixels than are missing is BROKEN (looked at when p "
            + "was read).")
    static void packetsTooLong() {
        dueRead("the same beyond a row's end", Bench.file(head(11, 2, 2, 8, 0), 0, 9, 130, 5), 2, 2,
                Bench.greys(5, 5, 9, 5));
        dueRead("others beyond a row's end", Bench.file(head(11, 2, 2, 8, 48), 128, 9, 2, 5, 6, 7), 2, 2,
                Bench.greys(5, 9, 7, 6));
        for (int missing = 1; missing <= 8; missing++) {
            int[] greys = Bench.filled(missing, 6);
            dueTooLong("all " + missing, head(11, missing, 1, 8, 32), missing, greys);
            dueTooLong("the last " + missing, Bench.file(head(11, 1, 8, 8, 32), missing == 8 ? new int[0]
                    : Bench.row(127 + 8 - missing, 6)), missing, greys);
        }
        dueTooLong("64", head(11, 8, 8, 8, 32), 64, Bench.filled(64, 6));
        Bench.dueBroken("128 the same", Bench.file(head(11, 8, 8, 8, 32), 255, 6));
        Bench.dueBroken("128 others", Bench.file(head(11, 8, 8, 8, 32), 127, new int[128]));
        Bench.dueBroken("in the second packet", Bench.file(head(11, 2, 2, 8, 32), 130, 6, 129, 6));
    }

    /** Packets with as many pixels as are missing, and with one more. */
    private static void dueTooLong(String what, int[] before, int missing, int[] greys) {
        int[] same = Bench.file(before, 127 + missing, 6);
        int[] others = Bench.file(before, missing - 1, greys);
        int count = before[12] * before[14];
        dueRead(what + ", the same", same, before[12], before[14], Bench.filled(count, Bench.grey(6)));
        dueRead(what + ", others", others, before[12], before[14], Bench.filled(count, Bench.grey(6)));
        Bench.dueBroken(what + " and one, the same", Bench.file(before, 128 + missing, 6));
        Bench.dueBrokenAtLast(what + " and one, the same, then nothing", Bench.file(before, 128 + missing));
        Bench.dueBroken(what + " and one, others", Bench.file(before, missing, greys, 6));
        Bench.dueBrokenAtLast(what + " and one, others, then nothing", Bench.file(before, missing));
    }

    @Holds("What stands behind is not looked at.")
    static void whatStandsBehind() {
        int[][] behind = {{}, {0}, {255, 255, 255}, Bench.file("TRUEVISION-XFILE.", 0), new int[100]};
        for (int[] more : behind) {
            dueRead("plain", Bench.file(head(2, 2, 1, 24, 32), 1, 2, 3, 4, 5, 6, more), 2, 1, A, B);
            dueRead("plain grey", Bench.file(head(3, 2, 1, 8, 32), 1, 2, more), 2, 1, Bench.greys(1, 2));
            dueRead("packets", Bench.file(head(10, 2, 1, 24, 32), 129, 1, 2, 3, more), 2, 1, A, A);
            dueRead("packets of others", Bench.file(head(11, 2, 1, 8, 32), 1, 1, 2, more), 2, 1, Bench.greys(1, 2));
        }
        dueRead("800 bytes", Bench.longFile(Bench.file(head(3, 1, 1, 8, 32), 7), 800, Bench.row(1)), 1, 1,
                Bench.grey(7));
    }

    @Holds("WRITING: byte 0 is 0; byte 2 is, for how = 0, 3 for a grey picture and 2 for others, for how = 1, 11 and 10;")
    static void writtenKinds() {
        Bench.dueWritten("a new object", x -> { }, 3, 0, Bench.file(writtenHead(3, 1, 1, 8, 32), 0));
        Bench.dueWritten("a new object", x -> { }, 3, 1, Bench.file(writtenHead(11, 1, 1, 8, 32), 0, 0));
        Story grey = Bench.drawn(2, 2, Bench.greys(1, 2, 3, 255));
        Bench.dueWritten("grey", grey, 3, 0, Bench.file(writtenHead(3, 2, 2, 8, 32), 1, 2, 3, 255));
        Bench.dueWritten("grey", grey, 3, 1, Bench.file(writtenHead(11, 2, 2, 8, 32), 1, 1, 2, 1, 3, 255));
        Story coloured = Bench.drawn(1, 2, A, Bench.grey(7));
        Bench.dueWritten("coloured", coloured, 3, 0, Bench.file(writtenHead(2, 1, 2, 24, 32), 1, 2, 3, 7, 7, 7));
        Bench.dueWritten("coloured", coloured, 3, 1, Bench.file(writtenHead(10, 1, 2, 24, 32), 0, 1, 2, 3, 0, 7, 7, 7));
        Story passed = Bench.fed(Bench.with(Bench.file(head(3, 1, 1, 8, 0), 77, 5), 0, 1)).and(Subject::decode, 3);
        Bench.dueWritten("L is 0 again", passed, 3, 0, Bench.file(writtenHead(3, 1, 1, 8, 32), 5));
    }

    @Holds("byte 16 is 8 for a grey one, 24 for another opaque one, else 32; byte 17 is 32, and 8 more if byte 16 is 32; "
            + "the bytes 3 .. 11 are 0.")
    static void writtenDepths() {
        Bench.dueWritten("grey", Bench.drawn(1, 1, Bench.grey(5)), 3, 0, Bench.file(writtenHead(3, 1, 1, 8, 32), 5));
        int[] nearlyGrey = {Bench.rgb(6, 5, 5), Bench.rgb(5, 6, 5), Bench.rgb(5, 5, 6)};
        for (int pixel : nearlyGrey) {
            int[] bytes = {pixel >>> 8 & 255, pixel >>> 16 & 255, pixel >>> 24};
            Bench.dueWritten("nearly grey", Bench.drawn(1, 1, pixel), 3, 0,
                    Bench.file(writtenHead(2, 1, 1, 24, 32), bytes));
        }
        int[] alphas = {0, 1, 254};
        for (int alpha : alphas) {
            Bench.dueWritten("grey, but alpha " + alpha,
                    Bench.drawn(2, 1, Bench.grey(4), Bench.rgba(5, 5, 5, alpha)), 3, 0,
                    Bench.file(writtenHead(2, 2, 1, 32, 40), 4, 4, 4, 255, 5, 5, 5, alpha));
            Bench.dueWritten("packets, alpha " + alpha, Bench.drawn(1, 1, Bench.rgba(5, 6, 7, alpha)), 3, 1,
                    Bench.file(writtenHead(10, 1, 1, 32, 40), 0, 7, 6, 5, alpha));
        }
        for (int side = 1; side <= 8; side++) {
            Bench.dueWritten("width " + side, Bench.drawn(side, 1), 3, 0,
                    Bench.file(writtenHead(3, side, 1, 8, 32), new int[side]));
            Bench.dueWritten("height " + side, Bench.drawn(1, side), 3, 0,
                    Bench.file(writtenHead(3, 1, side, 8, 32), new int[side]));
        }
    }

    private static void duePackets(String what, int[] greys, int... packets) {
        Bench.dueWritten(what, Bench.drawn(greys.length, 1, Bench.greys(greys)), 3, 1,
                Bench.file(writtenHead(11, greys.length, 1, 8, 32), packets));
    }

    @Holds("Packets keep to rows:")
    static void writtenInRows() {
        Bench.dueWritten("the same in the next row", Bench.drawn(2, 3, A, A, A, B, B, B), 3, 1,
                Bench.file(writtenHead(10, 2, 3, 24, 32), 129, 1, 2, 3, 1, 1, 2, 3, 4, 5, 6, 129, 4, 5, 6));
        Bench.dueWritten("all the same", Bench.drawn(2, 2, Bench.filled(4, A)), 3, 1,
                Bench.file(writtenHead(10, 2, 2, 24, 32), 129, 1, 2, 3, 129, 1, 2, 3));
        Bench.dueWritten("one column", Bench.drawn(1, 3, Bench.greys(7, 7, 8)), 3, 1,
                Bench.file(writtenHead(11, 1, 3, 8, 32), 0, 7, 0, 7, 0, 8));
        int[] rows = new int[0];
        for (int y = 0; y < 8; y++) {
            rows = Bench.file(rows, 135, 0);
        }
        Bench.dueWritten("8 by 8 the same", Bench.drawn(8, 8), 3, 1, Bench.file(writtenHead(11, 8, 8, 8, 32), rows));
    }

    @Holds("where a pixel is the same as the one behind it in its row, a packet p above 127 with as many as are the same;")
    static void writtenSame() {
        for (int n = 2; n <= 8; n++) {
            duePackets(n + " the same", Bench.filled(n, 9), 127 + n, 9);
            if (n < 8) {
                duePackets(n + " the same, another one", Bench.file(Bench.filled(n, 9), 5), 127 + n, 9, 0, 5);
                duePackets("another one, " + n + " the same", Bench.file(5, Bench.filled(n, 9)), 0, 5, 127 + n, 9);
            }
        }
        duePackets("one is no such packet", Bench.row(9), 0, 9);
        duePackets("two and three", Bench.row(4, 4, 5, 5, 5), 129, 4, 130, 5);
        Bench.dueWritten("alpha counts", Bench.drawn(3, 1, 0x01020304, 0x01020305, 0x01020305), 3, 1,
                Bench.file(writtenHead(10, 3, 1, 32, 40), 0, 3, 2, 1, 4, 129, 3, 2, 1, 5));
        Bench.dueWritten("colour counts", Bench.drawn(3, 1, A, A, Bench.rgb(3, 2, 2)), 3, 1,
                Bench.file(writtenHead(10, 3, 1, 24, 32), 129, 1, 2, 3, 0, 2, 2, 3));
    }

    @Holds("else one with the pixels up to the first that is the same as the one behind it (that one not included), or to "
            + "the row's end.")
    static void writtenOthers() {
        int[] counted = {1, 2, 3, 4, 5, 6, 7, 8};
        for (int n = 1; n <= 8; n++) {
            duePackets(n + " others", Arrays.copyOf(counted, n), Bench.file(n - 1, Arrays.copyOf(counted, n)));
            if (n < 7) {
                duePackets(n + " others, two the same", Bench.file(Arrays.copyOf(counted, n), 9, 9),
                        Bench.file(n - 1, Arrays.copyOf(counted, n), 129, 9));
                duePackets("two the same, " + n + " others", Bench.file(9, 9, Arrays.copyOf(counted, n)),
                        Bench.file(129, 9, n - 1, Arrays.copyOf(counted, n)));
            }
        }
        duePackets("between", Bench.row(4, 4, 1, 2, 1, 5, 5), 129, 4, 2, 1, 2, 1, 129, 5);
        duePackets("the same, but not behind one another", Bench.row(1, 2, 1, 2), 3, 1, 2, 1, 2);
    }
}
