import java.util.Arrays;

/** Promises 14 and 15 as far as they are the same for all formats, and the terms about reading. */
public final class CallTest {
    private static final int SHORT = FourPictureFiles.SHORT;
    private static final int BROKEN = FourPictureFiles.BROKEN;
    private static final int UNKNOWN = FourPictureFiles.UNKNOWN;
    private static final int[] NO_SIDES = {0, 9, 10, 255};
    private static final int[] SIDES = {1, 2, 7, 8};
    private static final int A = Bench.rgb(3, 2, 1);
    private static final int G = Bench.grey(7);

    /** A file of one pixel in each format and kind. */
    private static final int[][] SMALL = {
        chunks(1, 1, 254, 3, 2, 1),
        Bench.file("P2 1 1 255 7"), Bench.file("P3 1 1 255 3 2 1"), Bench.file("P5 1 1 255 ", 7),
        Bench.file("P6 1 1 255 ", 3, 2, 1),
        Bench.file(bitmapHead(1, 1, 24, 0, 0), 1, 2, 3, 0),
        Bench.file(bitmapHead(1, 1, 8, 0, 1), 1, 2, 3, 0, 0, 0, 0, 0),
        Bench.file(bitmapHead(1, 1, 8, 1, 1), 1, 2, 3, 0, 1, 0, 0, 1),
        packets(2, 24, 32, 1, 2, 3), packets(2, 32, 40, 1, 2, 3, 255), packets(3, 8, 32, 7),
        packets(10, 24, 32, 0, 1, 2, 3), packets(10, 32, 40, 128, 1, 2, 3, 255), packets(11, 8, 32, 128, 7)
    };
    private static final int[] FORMATS = {0, 1, 1, 1, 1, 2, 2, 2, 3, 3, 3, 3, 3, 3};
    private static final int[] PIXELS = {A, G, A, G, A, A, A, A, A, A, G, A, A, G};

    public static void main(String[] args) {
        Bench.run(CallTest.class);
    }

    private static int[] chunks(int width, int height, int... chunks) {
        return Bench.file("qoif", Bench.big(width), Bench.big(height), 3, 0, chunks, new int[7], 1);
    }

    private static int[] bitmapHead(int width, int height, int depth, int packing, int colours) {
        return Bench.file("BM", new int[8], Bench.little(54 + 4 * colours), Bench.little(40), Bench.little(width),
                Bench.little(height), 1, 0, depth, 0, Bench.little(packing), new int[12], Bench.little(colours),
                new int[4]);
    }

    private static int[] packets(int kind, int depth, int flags, int... bytes) {
        return Bench.file(0, 0, kind, new int[9], 1, 0, 1, 0, depth, flags, bytes);
    }

    @Holds("An object is used for at most 512 calls after it has been made; what later calls answer is free.")
    static void lastCall() {
        int[] last = {3, 1, 511, -1, 255, 255, 511};
        Story.Called[] calls = {Subject::decode, Subject::width, Subject::length, x -> x.byteAt(511),
            x -> x.pixel(0, 0), x -> x.byteAt(510), x -> x.change(2) && x.callsLeft() == 0 ? 511 : 0};
        for (int k = 0; k < calls.length; k++) {
            Subject x = new Subject();
            for (int b : Bench.file(packets(3, 8, 32, 7), Bench.filled(492, 255))) {
                Bench.due("feed, call " + (512 - x.callsLeft()), x.feed(b), true);
            }
            Bench.due("calls before the last one", 512 - x.callsLeft(), 511);
            Bench.due("call 512, of kind " + k, calls[k].call(x), last[k]);
        }
        Subject x = new Subject();
        for (int k = 0; k < 128; k++) {
            Bench.due("put", x.put(0, 0, Bench.rgba(1, 2, 3, k)), true);
            Bench.due("encode", x.encode(0, 0), 27);
            Bench.due("put", x.put(0, 0, 5), true);
            Bench.due("decode", x.decode(), 0);
        }
        Bench.due("all calls are made", x.callsLeft(), 0);
    }

    @Holds("READING goes through the file in the order in which it is described here, byte by byte; the first byte that "
            + "is not there where one is needed makes it SHORT, and the first thing that is not as said makes it BROKEN")
    static void firstFault() {
        int[] least = {4, 2, 2, 2, 2, 2, 2, 2, 18, 18, 18, 18, 18, 18};
        for (int k = 0; k < SMALL.length; k++) {
            Bench.dueRead("file " + k, SMALL[k], FORMATS[k], 1, 1, PIXELS[k]);
            Bench.dueShortBeginnings("file " + k, SMALL[k], least[k]);
        }
        int[] chunks = chunks(1, 1, 193);
        Bench.dueFault("the third byte of the width is missing", Arrays.copyOf(Bench.with(chunks, 4, 9, 9, 9), 7),
                SHORT);
        Bench.dueFault("a wrong width, and no height", Bench.with(Arrays.copyOf(chunks, 8), 7, 9), BROKEN);
        Bench.dueFault("a wrong byte behind the height, and no other", Bench.with(Arrays.copyOf(chunks, 13), 12, 9),
                BROKEN);
        Bench.dueFault("a run too long, and no end", Arrays.copyOf(chunks, 15), BROKEN);
        Bench.dueFault("no run", Arrays.copyOf(chunks, 14), SHORT);
        Bench.dueFault("a wrong width, and no digits behind", Bench.file("P2 9"), BROKEN);
        Bench.dueFault("a right width, and no digits behind", Bench.file("P2 8"), SHORT);
        Bench.dueFault("a sample above, and no second one", Bench.file("P5 2 1 6 ", 7), BROKEN);
        Bench.dueFault("a right sample, and no second one", Bench.file("P5 2 1 7 ", 7), SHORT);
        int[] bitmap = bitmapHead(1, 1, 24, 0, 0);
        Bench.dueFault("a wrong beginning is looked at late", Arrays.copyOf(Bench.with(bitmap, 10, 0), 53), SHORT);
        Bench.dueFault("a wrong beginning", Bench.with(bitmap, 10, 0), BROKEN);
        Bench.dueFault("a wrong beginning, and an earlier fault",
                Arrays.copyOf(Bench.with(bitmap, 10, 0, 0, 0, 0, 39), 18), BROKEN);
        Bench.dueFault("a wrong byte 17, and no pixels", Arrays.copyOf(packets(2, 24, 8), 18), BROKEN);
        Bench.dueFault("a right byte 17, and no pixels", Arrays.copyOf(packets(2, 24, 0), 18), SHORT);
    }

    @Holds("(a number of several bytes is looked at when its last byte was read).")
    static void lastByteOfNumber() {
        Bench.dueBrokenAtLast("the width of format 0", Bench.file("qoif", 1, 1, 1, 1));
        Bench.dueBrokenAtLast("the height of format 0", Bench.file("qoif", Bench.big(1), 1, 1, 1, 1));
        int[] bitmap = bitmapHead(1, 1, 24, 0, 0);
        int[] places = {14, 18, 22, 26, 28, 30, 46};
        int[] sizes = {4, 4, 4, 2, 2, 4, 4};
        for (int k = 0; k < places.length; k++) {
            int[] wrong = Arrays.copyOf(Bench.with(bitmap, places[k], Bench.filled(sizes[k], 9)), places[k] + sizes[k]);
            Bench.dueBrokenAtLast("the number of format 2 at " + places[k], wrong);
            Bench.dueShort("its first byte alone", Arrays.copyOf(wrong, places[k] + 1));
        }
        // Format 3 has 18 bytes or more, so that its numbers of two bytes always are there.
        Bench.dueBroken("the width of format 3, above by its last byte", Bench.with(packets(3, 8, 32, 7), 12, 1, 1));
    }

    @Holds("Bytes of which nothing is said may be anything.")
    static void freeBytes() {
        int[][] free = {
            {}, {}, {}, {}, {},
            {2, 3, 4, 5, 6, 7, 8, 9, 34, 35, 36, 37, 38, 39, 40, 41, 42, 43, 44, 45, 50, 51, 52, 53, 57},
            {2, 3, 4, 5, 6, 7, 8, 9, 34, 35, 36, 37, 38, 39, 40, 41, 42, 43, 44, 45, 50, 51, 52, 53, 57, 59, 60, 61},
            {2, 3, 4, 5, 6, 7, 8, 9, 34, 35, 36, 37, 38, 39, 40, 41, 42, 43, 44, 45, 50, 51, 52, 53, 57},
            {3, 4, 5, 6, 7, 8, 9, 10, 11}, {3, 4, 5, 6, 7, 8, 9, 10, 11}, {3, 4, 5, 6, 7, 8, 9, 10, 11},
            {3, 4, 5, 6, 7, 8, 9, 10, 11}, {3, 4, 5, 6, 7, 8, 9, 10, 11}, {3, 4, 5, 6, 7, 8, 9, 10, 11}
        };
        int[] values = {0, 1, 128, 255};
        for (int k = 0; k < SMALL.length; k++) {
            for (int value : values) {
                int[] all = SMALL[k];
                for (int place : free[k]) {
                    all = Bench.with(all, place, value);
                    Bench.dueRead("byte " + place + " is " + value, Bench.with(SMALL[k], place, value),
                            FORMATS[k], 1, 1, PIXELS[k]);
                }
                Bench.dueRead("all are " + value, all, FORMATS[k], 1, 1, PIXELS[k]);
            }
        }
    }

    @Holds("A width or height that is not 1 .. 8 is BROKEN.")
    static void sides() {
        for (int side : NO_SIDES) {
            for (int other = 1; other <= 8; other += 7) {
                dueSides(side, other, false);
                dueSides(other, side, false);
            }
        }
        for (int side : SIDES) {
            for (int other : SIDES) {
                dueSides(side, other, true);
            }
        }
    }

    private static void dueSides(int width, int height, boolean isRight) {
        int count = isRight ? width * height : 1;
        int[] greys = Bench.filled(count, Bench.grey(7));
        int[] row = Bench.filled(count, 7);
        int[] chunks = Bench.file(254, 7, 7, 7, Bench.filled(count - 1, 192));
        dueSides(chunks(width, height, chunks), isRight, 0, width, height, greys);
        dueSides(Bench.file("P5 " + width + " " + height + " 255 ", row), isRight, 1, width, height, greys);
        int[] rows = Bench.filled((isRight ? (width + 3) / 4 * 4 * height : 4), 0);
        int[] bitmap = Bench.file(bitmapHead(width, height, 8, 0, 1), 7, 7, 7, 0, rows);
        dueSides(bitmap, isRight, 2, width, height, greys);
        int[] downward = Bench.file(bitmapHead(width, -height, 8, 0, 1), 7, 7, 7, 0, rows);
        dueSides(downward, isRight, 2, width, height, greys);
        int[] packets = Bench.with(packets(3, 8, 32, row), 12, width, 0, height, 0);
        dueSides(packets, isRight, 3, width, height, greys);
    }

    private static void dueSides(int[] file, boolean isRight, int format, int width, int height, int[] pixels) {
        String what = "format " + format + ", " + width + " by " + height;
        if (isRight) {
            Bench.dueRead(what, file, format, width, height, pixels);
        } else {
            Bench.dueBroken(what, file);
        }
    }

    @Holds("Where nothing is said of alpha, it is 255.")
    static void alpha() {
        for (int k = 1; k < SMALL.length; k++) {
            if (k != 9 && k != 12) {
                Bench.dueRead("file " + k, SMALL[k], FORMATS[k], 1, 1, PIXELS[k]);
            }
        }
        int[] bitmap = Bench.file(bitmapHead(1, 1, 8, 1, 1), 1, 2, 3, 77, 1, 0, 0, 1);
        Bench.dueRead("the byte behind a colour is no alpha", bitmap, 2, 1, 1, A);
        Bench.dueRead("alpha is said", packets(2, 32, 40, 1, 2, 3, 0), 3, 1, 1, Bench.rgba(3, 2, 1, 0));
        Bench.dueRead("alpha is said", packets(2, 32, 40, 1, 2, 3, 254), 3, 1, 1, Bench.rgba(3, 2, 1, 254));
    }

    @Holds("Writes the picture as a file in this format, in place of the file.")
    static void encode() {
        int[] nothing = new int[0];
        int[][] before = {nothing, {1}, Bench.filled(300, 77), Bench.longFile(nothing, 800, nothing)};
        for (int[] file : before) {
            Story story = x -> {
                Bench.fed(file).tell(x);
                Bench.drawn(1, 1, A).tell(x);
            };
            Bench.dueWritten("format 0 on " + file.length, story, 0, 0, chunks(1, 1, 162, 151));
            Bench.dueWritten("format 1 on " + file.length, story, 1, 0, Bench.file("P6\n1 1\n255\n", 3, 2, 1));
            Bench.dueWritten("format 2 on " + file.length, story, 2, 0,
                    Bench.with(Bench.file(bitmapHead(1, 1, 24, 0, 0), 1, 2, 3, 0), 2, 58));
            Bench.dueWritten("format 3 on " + file.length, story, 3, 0, packets(2, 24, 32, 1, 2, 3));
        }
        Story second = Bench.drawn(2, 1, A, A).and(x -> x.encode(1, 0), 17).and(x -> x.make(1, 1));
        Bench.dueWritten("the picture as it is now", second, 1, 0, Bench.file("P5\n1 1\n255\n", 0));
    }

    @Holds("Answers its length; UNKNOWN when format is not 0 .. 3, how is not 0 or 1, or it is refused.")
    static void encodeRefused() {
        Story opaque = Bench.SOME.and(x -> x.change(4));
        int[] noFormats = {Integer.MIN_VALUE, -1, 4, 5, Integer.MAX_VALUE};
        for (int format : noFormats) {
            for (int how = -1; how <= 2; how++) {
                Bench.dueNotWritten("encode(" + format + ", " + how + ")", opaque, format, how);
            }
        }
        int[] noHow = {Integer.MIN_VALUE, -1, 2, 3, Integer.MAX_VALUE};
        int[][] lengths = {{24, 24}, {17, 25}, {78, 72}, {24, 24}};
        int[][] notOpaque = {{52, 52}, {UNKNOWN, UNKNOWN}, {UNKNOWN, UNKNOWN}, {42, 44}};
        for (int format = 0; format < 4; format++) {
            for (int how : noHow) {
                Bench.dueNotWritten("encode(" + format + ", " + how + ")", opaque, format, how);
            }
            for (int how = 0; how < 2; how++) {
                dueLength(opaque, format, how, lengths[format][how]);
                dueLength(Bench.SOME, format, how, notOpaque[format][how]);
            }
        }
    }

    private static void dueLength(Story story, int format, int how, int length) {
        String what = "encode(" + format + ", " + how + ")";
        if (length == UNKNOWN) {
            Bench.dueNotWritten(what, story, format, how);
        } else {
            Bench.due(what, Bench.written(story, format, how).length, length);
            Bench.dueState(what, story.and(x -> x.encode(format, how), length).and(x -> x.cut(0)),
                    State.withFile(State.after(story), new int[0]));
        }
    }

    @Holds("Reads the file: its picture is the picture then.")
    static void decode() {
        for (int k = 0; k < SMALL.length; k++) {
            int[] file = SMALL[k];
            int format = FORMATS[k];
            int[] pixel = {PIXELS[k]};
            Story greatest = x -> {
                Bench.fed(file).tell(x);
                Bench.drawn(8, 8, Bench.filled(64, Bench.FILLER)).tell(x);
            };
            Story read = greatest.and(Subject::decode, format);
            Bench.dueState("file " + k + " in place of 8 by 8", read, 1, 1, pixel, file);
            Bench.dueState("read twice", read.and(Subject::decode, format), 1, 1, pixel, file);
            Bench.dueState("make behind it", read.and(x -> x.make(8, 8)), 8, 8, Bench.filled(64, 255), file);
        }
        int[] long3 = Bench.longestFile();
        Bench.dueRead("the longest file that is written", long3, 1, 8, 8, Bench.filled(64, Bench.rgb(100, 150, 200)));
    }

    @Holds("Answers its format; UNKNOWN when it has none; SHORT or BROKEN.")
    static void decodeAnswers() {
        Bench.dueFault("an empty file", new int[0], UNKNOWN);
        Bench.dueFault("three bytes", Bench.file("qoi"), UNKNOWN);
        Bench.dueFault("four bytes", Bench.file("qoif"), SHORT);
        Bench.dueFault("a byte", Bench.file("P"), UNKNOWN);
        Bench.dueFault("P4", Bench.file("P4 1 1 255 ", 7), UNKNOWN);
        Bench.dueFault("P2", Bench.file("P2"), SHORT);
        Bench.dueFault("P2 and a letter", Bench.file("P2a"), BROKEN);
        Bench.dueFault("B", Bench.file("B"), UNKNOWN);
        Bench.dueFault("BM", Bench.file("BM"), SHORT);
        Bench.dueFault("17 bytes", Arrays.copyOf(packets(3, 8, 32, 7), 17), UNKNOWN);
        Bench.dueFault("18 bytes", Arrays.copyOf(packets(3, 8, 32, 7), 18), SHORT);
        Bench.dueFault("18 bytes, the last one wrong", Arrays.copyOf(packets(3, 8, 33, 7), 18), BROKEN);
        for (int k = 0; k < SMALL.length; k++) {
            Bench.dueRead("file " + k, SMALL[k], FORMATS[k], 1, 1, PIXELS[k]);
        }
    }

    @Holds("A call that is refused, or finds a fault, changes nothing.")
    static void nothingChanged() {
        for (int k = 0; k < SMALL.length; k++) {
            int[] file = SMALL[k];
            dueUntouched("whole file " + k, file);
            dueUntouched("cut file " + k, Bench.without(file, 1));
            dueUntouched("file with a byte more " + k, Bench.file(file, 9));
        }
        dueFaultsBetween();
    }

    /** Every call that can be refused, one behind the other on the same object. */
    private static void dueUntouched(String what, int[] file) {
        Story story = x -> {
            Bench.fed(file).tell(x);
            Bench.drawn(2, 2, 1, 2, 3, 4).tell(x);
        };
        Story refused = story.and(x -> !x.make(0, 1)).and(x -> !x.make(1, 9)).and(x -> !x.put(2, 0, 9))
                .and(x -> !x.put(0, -1, 9)).and(x -> !x.change(5)).and(x -> !x.change(-1)).and(x -> !x.feed(256))
                .and(x -> !x.feed(-1)).and(x -> !x.cut(-1)).and(x -> !x.cut(file.length + 1)).and(x -> !x.alter(-1, 0))
                .and(x -> !x.alter(file.length, 0)).and(x -> !x.alter(0, 256)).and(x -> x.encode(1, 0), UNKNOWN)
                .and(x -> x.encode(2, 1), UNKNOWN).and(x -> x.encode(4, 0), UNKNOWN).and(x -> x.encode(0, 2), UNKNOWN);
        Bench.dueState(what, refused, 2, 2, Bench.row(1, 2, 3, 4), file);
    }

    /** A fault leaves nothing behind that a later reading or writing could see. */
    private static void dueFaultsBetween() {
        for (int[] faulty : SMALL) {
            for (int k = 0; k < SMALL.length; k++) {
                int[] file = SMALL[k];
                Story fault = Bench.fed(Bench.without(faulty, 1)).and(x -> x.make(3, 3)).and(Subject::decode, SHORT)
                        .and(x -> x.cut(0));
                Story read = x -> {
                    fault.tell(x);
                    Bench.fed(file).tell(x);
                };
                Bench.dueState("read behind a fault", read.and(Subject::decode, FORMATS[k]), 1, 1,
                        Bench.row(PIXELS[k]), file);
            }
            Story fault = Bench.fed(Bench.without(faulty, 1)).and(Subject::decode, SHORT).and(x -> x.put(0, 0, A));
            for (int format = 0; format < 4; format++) {
                for (int how = 0; how < 2; how++) {
                    int[] file = Bench.written(Bench.drawn(1, 1, A), format, how);
                    Bench.dueWritten("written behind a fault", fault, format, how, file);
                }
            }
        }
    }
}
