import java.util.Arrays;

/** Promises 8 to 13, and the terms about files. */
public final class FileTest {
    private static final int[] NO_BYTES = {Integer.MIN_VALUE, -128, -1, 256, 257, Integer.MAX_VALUE};
    private static final int[] BYTES = {0, 1, 127, 128, 254, 255};
    private static final int[] FULL = Bench.longFile(new int[0], 800, Bench.file(5, "behind the longest one"));

    public static void main(String[] args) {
        Bench.run(FileTest.class);
    }

    @Holds("The FILE is a row of at most 800 bytes 0 .. 255; places count from 0.")
    static void rowOfBytes() {
        for (int length = 798; length <= 800; length++) {
            int[] file = Arrays.copyOf(FULL, length);
            Bench.dueState(length + " bytes", Bench.fed(file),
                    State.of(8, 8, Bench.filled(64, Bench.rgb(100, 150, 200)), file));
        }
        Bench.dueRefused("a byte behind 800", Bench.fed(FULL), x -> x.feed(0));
        Bench.dueState("all bytes", Bench.fed(everyByte()), 1, 1, Bench.row(255), everyByte());
    }

    private static int[] everyByte() {
        int[] file = new int[256];
        for (int b = 0; b < 256; b++) {
            file[b] = b;
        }
        return file;
    }

    @Holds("A byte more in the file.")
    static void feed() {
        for (int b : BYTES) {
            Bench.dueState("feed(" + b + ")", Bench.SOME.and(x -> x.feed(b)), 3, 2, Bench.SOME_PIXELS,
                    Bench.file(Bench.SOME_FILE, b));
            Bench.dueState("feed(" + b + ") to an empty file", Bench.fed().and(x -> x.feed(b)), 1, 1, Bench.row(255),
                    Bench.row(b));
        }
    }

    @Holds("Refused (false) when b is not 0 .. 255, or it has 800.")
    static void feedRefused() {
        for (int b : NO_BYTES) {
            Bench.dueRefused("feed(" + b + ")", x -> x.feed(b));
            Bench.dueRefused("feed(" + b + ") to an empty file", Bench.fed(), x -> x.feed(b));
        }
        for (int b : BYTES) {
            Bench.dueRefused("feed(" + b + ") to 800 bytes", Bench.fed(FULL), x -> x.feed(b));
            int[] file = Bench.with(FULL, 799, b);
            Story story = Bench.fed(Bench.without(FULL, 1)).and(x -> x.feed(b));
            Bench.dueState("feed(" + b + ") to 799 bytes", story, 8, 8, Bench.filled(64, Bench.rgb(100, 150, 200)),
                    file);
        }
        Bench.dueRefused("feed(256) to 800 bytes", Bench.fed(FULL), x -> x.feed(256));
        Story again = Bench.fed(FULL).and(x -> !x.feed(1)).and(x -> x.cut(799)).and(x -> x.feed(77));
        Bench.dueState("a full file has room again when it is cut", again, 8, 8,
                Bench.filled(64, Bench.rgb(100, 150, 200)), Bench.with(FULL, 799, 77));
    }

    @Holds("The file keeps its first n bytes.")
    static void cut() {
        for (int n = 0; n <= 3; n++) {
            int length = n;
            Bench.dueState("cut(" + n + ")", Bench.SOME.and(x -> x.cut(length)), 3, 2, Bench.SOME_PIXELS,
                    Arrays.copyOf(Bench.SOME_FILE, n));
        }
        int[] lengths = {0, 1, 778, 799, 800};
        for (int n : lengths) {
            Bench.dueState("cut(" + n + ") of 800", Bench.fed(FULL).and(x -> x.cut(n)), 8, 8,
                    Bench.filled(64, Bench.rgb(100, 150, 200)), Arrays.copyOf(FULL, n));
        }
        Story fedAgain = Bench.SOME.and(x -> x.cut(1)).and(x -> x.feed(9));
        Bench.dueState("fed again", fedAgain, 3, 2, Bench.SOME_PIXELS, Bench.row(7, 9));
    }

    @Holds("Refused (false) when n is not 0 .. length().")
    static void cutRefused() {
        int[] outside = {Integer.MIN_VALUE, -2, -1, 4, 5, 800, 801, Integer.MAX_VALUE};
        for (int n : outside) {
            Bench.dueRefused("cut(" + n + ")", x -> x.cut(n));
        }
        Bench.dueState("cut(3) of 3", Bench.SOME.and(x -> x.cut(3)), 3, 2, Bench.SOME_PIXELS, Bench.SOME_FILE);
        Bench.dueState("cut(0) of an empty file", Bench.fed().and(x -> x.cut(0)), 1, 1, Bench.row(255), new int[0]);
        Bench.dueRefused("cut(1) of an empty file", Bench.fed(), x -> x.cut(1));
        Bench.dueRefused("cut(-1) of an empty file", Bench.fed(), x -> x.cut(-1));
        Bench.dueRefused("cut(801) of 800", Bench.fed(FULL), x -> x.cut(801));
        Bench.dueRefused("cut(3) of what was cut to 2", Bench.SOME.and(x -> x.cut(2)), x -> x.cut(3));
        Bench.dueState("cut(800) of 800", Bench.fed(FULL).and(x -> x.cut(800)), 8, 8,
                Bench.filled(64, Bench.rgb(100, 150, 200)), FULL);
    }

    @Holds("Byte i of the file becomes b.")
    static void alter() {
        for (int b : BYTES) {
            for (int i = 0; i < 3; i++) {
                int place = i;
                Bench.dueState("alter(" + i + ", " + b + ")", Bench.SOME.and(x -> x.alter(place, b)), 3, 2,
                        Bench.SOME_PIXELS, Bench.with(Bench.SOME_FILE, place, b));
            }
        }
    }

    @Holds("Refused (false) when there is no such byte, or b is not 0 .. 255.")
    static void alterRefused() {
        int[] noPlaces = {Integer.MIN_VALUE, -1, 3, 4, 799, 800, Integer.MAX_VALUE};
        for (int i : noPlaces) {
            Bench.dueRefused("alter(" + i + ", 9)", x -> x.alter(i, 9));
            Bench.dueRefused("alter(" + i + ", 256)", x -> x.alter(i, 256));
        }
        for (int b : NO_BYTES) {
            for (int i = 0; i < 3; i++) {
                int place = i;
                Bench.dueRefused("alter(" + i + ", " + b + ")", x -> x.alter(place, b));
            }
        }
        Bench.dueRefused("alter(0, 9) of an empty file", Bench.fed(), x -> x.alter(0, 9));
        Bench.dueRefused("alter(2, 9) of what was cut to 2", Bench.SOME.and(x -> x.cut(2)), x -> x.alter(2, 9));
        Bench.dueRefused("alter(800, 9) of 800", Bench.fed(FULL), x -> x.alter(800, 9));
        Bench.dueState("alter(799, 9) of 800", Bench.fed(FULL).and(x -> x.alter(799, 9)), 8, 8,
                Bench.filled(64, Bench.rgb(100, 150, 200)), Bench.with(FULL, 799, 9));
    }

    @Holds("The number of bytes of the file.")
    static void length() {
        Bench.dueUnchanged("length() of an empty file", Bench.fed(), Subject::length, 0);
        Bench.dueUnchanged("length() of a byte", Bench.fed(0), Subject::length, 1);
        Bench.dueUnchanged("length() of 799", Bench.fed(Bench.without(FULL, 1)), Subject::length, 799);
        Bench.dueUnchanged("length() of 800", Bench.fed(FULL), Subject::length, 800);
        Bench.dueUnchanged("length() behind a refused feed", Bench.fed(FULL).and(x -> !x.feed(1)), Subject::length,
                800);
        Bench.dueUnchanged("length() behind cut(0)", Bench.fed(FULL).and(x -> x.cut(0)), Subject::length, 0);
        Bench.dueUnchanged("length() behind encode", Bench.fed(FULL).and(x -> x.encode(0, 0), 28), Subject::length, 28);
    }

    @Holds("Byte i of the file; -1 when there is none.")
    static void byteAt() {
        int[] noPlaces = {Integer.MIN_VALUE, -2, -1, 3, 4, 799, 800, Integer.MAX_VALUE};
        for (int i : noPlaces) {
            Bench.dueUnchanged("byteAt(" + i + ")", Bench.SOME, x -> x.byteAt(i), -1);
        }
        for (int i = 0; i < 3; i++) {
            int place = i;
            Bench.dueUnchanged("byteAt(" + i + ")", Bench.SOME, x -> x.byteAt(place), Bench.SOME_FILE[i]);
        }
        Bench.dueUnchanged("byteAt(0) of an empty file", Bench.fed(), x -> x.byteAt(0), -1);
        Bench.dueUnchanged("byteAt(2) of what was cut to 2", Bench.SOME.and(x -> x.cut(2)), x -> x.byteAt(2), -1);
        Bench.dueUnchanged("byteAt(799) of 800", Bench.fed(FULL), x -> x.byteAt(799), FULL[799]);
        Bench.dueUnchanged("byteAt(800) of 800", Bench.fed(FULL), x -> x.byteAt(800), -1);
    }

    @Holds("LITTLE n is n bytes that make a number, the first one lowest; BIG n likewise, the first one highest.")
    static void numbersOfBytes() {
        int[] tail = Bench.file(1, 0, 24, 0, new int[24]);
        int[] little = Bench.file("BM", new int[8], Bench.little(54), Bench.little(40), Bench.little(1),
                Bench.little(1), tail);
        Bench.dueRead("LITTLE 4", Bench.file(little, 3, 2, 1, 0), 2, 1, 1, Bench.rgb(1, 2, 3));
        for (int k = 0; k < 4; k++) {
            Bench.dueBroken("40 at byte " + k, Bench.with(little, 14, Bench.with(new int[4], k, k == 0 ? 41 : 40)));
            Bench.dueBroken("40 and another byte " + k, Bench.with(little, 14 + k, k == 0 ? 39 : 1));
        }
        int[] packets = Bench.file(0, 0, 3, new int[9], 1, 0, 1, 0, 8, 32, 9);
        Bench.dueRead("LITTLE 2", packets, 3, 1, 1, Bench.grey(9));
        Bench.dueBroken("LITTLE 2, the highest first", Bench.with(packets, 12, 0, 1));
        Bench.dueBroken("LITTLE 2 is 257", Bench.with(packets, 12, 1, 1));
        int[] big = Bench.file("qoif", Bench.big(1), Bench.big(1), 3, 0, 192, new int[7], 1);
        Bench.dueRead("BIG 4", big, 0, 1, 1, 255);
        Bench.dueBroken("BIG 4, the lowest first", Bench.with(big, 4, Bench.little(1)));
        int[] wrapping = {0x80000001, 0x01000001, 0x00010001, 0x00000101, -1, -255, Integer.MIN_VALUE};
        for (int side : wrapping) {
            Bench.dueBroken("BIG 4 is " + side, Bench.with(big, 4, Bench.big(side)));
            Bench.dueBroken("LITTLE 4 is " + side, Bench.with(little, 18, Bench.little(side)));
        }
    }

    private static void dueSniff(int format, int... file) {
        Bench.dueUnchanged("sniff() of " + Arrays.toString(file), Bench.fed(file), Subject::sniff, format);
    }

    @Holds("A file HAS format 0 when its first four bytes are 113 111 105 102 (qoif);")
    static void hasFormat0() {
        dueSniff(0, 113, 111, 105, 102);
        dueSniff(0, 113, 111, 105, 102, 0);
        dueSniff(0, Bench.file("qoif", new int[40]));
        dueSniff(-1, 113, 111, 105);
        dueSniff(-1, 0, 113, 111, 105, 102);
        for (int k = 0; k < 4; k++) {
            int[] file = Bench.file("qoif");
            dueSniff(-1, Bench.with(file, k, file[k] - 1));
            dueSniff(-1, Bench.with(file, k, file[k] + 1));
            dueSniff(-1, Bench.with(file, k, file[k] - 32));
        }
    }

    @Holds("1 when its first two are 80 and one of 50, 51, 53, 54 (P2, P3, P5, P6);")
    static void hasFormat1() {
        for (int kind = 0; kind < 256; kind++) {
            boolean known = kind == 50 || kind == 51 || kind == 53 || kind == 54;
            dueSniff(known ? 1 : -1, 80, kind);
            dueSniff(known ? 1 : -1, 80, kind, 7);
            dueSniff(-1, 79, kind);
            dueSniff(-1, 81, kind);
        }
        dueSniff(-1, 80);
        dueSniff(-1, 50, 80);
    }

    @Holds("2 when its first two are 66 77 (BM);")
    static void hasFormat2() {
        dueSniff(2, 66, 77);
        dueSniff(2, 66, 77, 0);
        dueSniff(-1, 66);
        int[][] others = {{65, 77}, {67, 77}, {66, 76}, {66, 78}, {77, 66}, {98, 109}, {0, 66, 77}};
        for (int[] file : others) {
            dueSniff(-1, file);
        }
    }

    @Holds("3 when it has none of these, it has 18 bytes or more, byte 1 is 0, and byte 2 is 2 or 10 and byte 16 is "
            + "24 or 32, or byte 2 is 3 or 11 and byte 16 is 8.")
    static void hasFormat3() {
        for (int kind = 0; kind < 14; kind++) {
            for (int depth = 0; depth < 36; depth++) {
                boolean coloured = (kind == 2 || kind == 10) && (depth == 24 || depth == 32);
                boolean grey = (kind == 3 || kind == 11) && depth == 8;
                int[] file = Bench.with(Bench.with(new int[18], 2, kind), 16, depth);
                dueSniff(coloured || grey ? 3 : -1, file);
                if (coloured || grey) {
                    dueSniffHead(file);
                }
            }
        }
        int[] far = {128, 130, 138, 139, 255};
        for (int kind : far) {
            dueSniff(-1, Bench.with(Bench.with(new int[18], 2, kind), 16, 24));
            dueSniff(-1, Bench.with(Bench.with(new int[18], 2, kind), 16, 8));
            dueSniff(-1, Bench.with(Bench.with(new int[18], 2, 10), 16, kind));
        }
    }

    /** The other conditions: 18 bytes or more, and byte 1 is 0; all other bytes may be anything. */
    private static void dueSniffHead(int[] file) {
        dueSniff(-1, Bench.without(file, 1));
        dueSniff(3, Bench.file(file, 0));
        dueSniff(3, Bench.file(file, new int[100]));
        dueSniff(-1, Bench.with(file, 1, 1));
        dueSniff(-1, Bench.with(file, 1, 255));
        for (int k = 0; k < 18; k++) {
            if (k != 1 && k != 2 && k != 16) {
                dueSniff(3, Bench.with(file, k, 255));
            }
        }
        dueSniff(3, Bench.with(file, 0, 'B'));
        dueSniff(3, Bench.with(file, 0, 'P'));
        dueSniff(3, Bench.with(file, 0, 'q'));
        dueSniff(2, Bench.with(file, 0, 'B', 'M'));
        dueSniff(1, Bench.with(file, 0, 'P', '2'));
        dueSniff(0, Bench.with(file, 0, 'q', 'o', 'i', 'f'));
    }

    @Holds("The format that the file has; UNKNOWN when it has none.")
    static void sniff() {
        dueSniff(FourPictureFiles.UNKNOWN);
        dueSniff(FourPictureFiles.UNKNOWN, 0);
        dueSniff(FourPictureFiles.UNKNOWN, new int[18]);
        dueSniff(0, Bench.file("qoif"));
        dueSniff(1, Bench.file("P2"));
        dueSniff(2, Bench.file("BM"));
        dueSniff(3, Bench.file(0, 0, 10, new int[13], 24, 0));
        dueSniff(1, FULL);
        Story cut = Bench.fed(Bench.file("qoif")).and(x -> x.cut(3));
        Bench.dueUnchanged("a byte that was cut off is not there", cut, Subject::sniff, FourPictureFiles.UNKNOWN);
        Story emptied = Bench.fed(Bench.file(0, 0, 10, new int[13], 24, 0)).and(x -> x.cut(17));
        Bench.dueUnchanged("nor the last of 18", emptied, Subject::sniff, FourPictureFiles.UNKNOWN);
        Bench.dueUnchanged("altered", Bench.fed(Bench.file("qoie")).and(x -> x.alter(3, 'f')), Subject::sniff, 0);
    }

    @Holds("The formats are 0 .. 3.")
    static void formats() {
        int[] outside = {Integer.MIN_VALUE, -1, 4, 5, Integer.MAX_VALUE};
        for (int format : outside) {
            Bench.dueNotWritten("encode(" + format + ", 0)", Bench.SOME.and(x -> x.change(4)), format, 0);
        }
        for (int format = 0; format < 4; format++) {
            int written = format;
            int[] file = Bench.written(Bench.SOME.and(x -> x.change(4)), written, 0);
            Bench.dueUnchanged("sniff() of format " + format, Bench.fed(file), Subject::sniff, format);
        }
    }
}
