/** Promises 1 to 7, and the terms about pictures. */
public final class PictureTest {
    private static final int BLACK = Bench.BLACK;
    private static final int[] INSIDE = {1, 2, 7, 8};
    private static final int[] OUTSIDE = {Integer.MIN_VALUE, -8, -1, 0, 9, 10, 257, Integer.MAX_VALUE};
    private static final int[] EDGES = {0, 1, 127, 128, 254, 255};

    public static void main(String[] args) {
        Bench.run(PictureTest.class);
    }

    @Holds("A picture of one pixel 0, 0, 0, 255, and an empty file.")
    static void newObject() {
        Bench.dueState("a new object", x -> { }, 1, 1, new int[] {BLACK}, new int[0]);
        Bench.SOME.tell(new Subject());
        Bench.dueState("a new object behind another one", x -> { }, 1, 1, new int[] {BLACK}, new int[0]);
        Bench.due("UNKNOWN", FourPictureFiles.UNKNOWN, -1);
        Bench.due("SHORT", FourPictureFiles.SHORT, -2);
        Bench.due("BROKEN", FourPictureFiles.BROKEN, -3);
    }

    @Holds("The PICTURE is W pixels wide and H high, both 1 .. 8.")
    static void sizes() {
        for (int size = 0; size < 64; size++) {
            int width = size % 8 + 1;
            int height = size / 8 + 1;
            Bench.dueState("make(" + width + ", " + height + ")", Bench.drawn(width, height), width, height,
                    Bench.filled(64, BLACK), new int[0]);
        }
    }

    @Holds("A picture of this size, all pixels 0, 0, 0, 255.")
    static void make() {
        for (int side : INSIDE) {
            Bench.dueState("wide as " + side, Bench.SOME.and(x -> x.make(side, 2)), side, 2,
                    Bench.filled(16, BLACK), Bench.SOME_FILE);
            Bench.dueState("high as " + side, Bench.SOME.and(x -> x.make(2, side)), 2, side,
                    Bench.filled(16, BLACK), Bench.SOME_FILE);
        }
        Story twice = Bench.drawn(8, 8, numbered(8, 8)).and(x -> x.make(1, 1)).and(x -> x.make(8, 8));
        Bench.dueState("no pixel is left of a greater picture", twice, 8, 8, Bench.filled(64, BLACK), new int[0]);
        Story same = Bench.SOME.and(x -> x.make(3, 2));
        Bench.dueState("the same size again", same, 3, 2, Bench.filled(6, BLACK), Bench.SOME_FILE);
    }

    @Holds("Refused (false) when width or height is not 1 .. 8.")
    static void makeRefused() {
        for (int side : OUTSIDE) {
            Bench.dueRefused("make(" + side + ", 1)", x -> x.make(side, 1));
            Bench.dueRefused("make(1, " + side + ")", x -> x.make(1, side));
            Bench.dueRefused("make(" + side + ", 8)", x -> x.make(side, 8));
            Bench.dueRefused("make(8, " + side + ")", x -> x.make(8, side));
            Bench.dueRefused("make of both", x -> x.make(side, side));
        }
        for (int side : INSIDE) {
            Bench.dueState("make(" + side + ", " + side + ")", Bench.SOME.and(x -> x.make(side, side)), side, side,
                    Bench.filled(64, BLACK), Bench.SOME_FILE);
        }
    }

    @Holds("Pixel (x, y) becomes this one.")
    static void put() {
        int[] values = {0, 1, -1, BLACK, Integer.MIN_VALUE, Integer.MAX_VALUE, 0x12345678};
        for (int value : values) {
            for (int i = 0; i < 6; i++) {
                int place = i;
                int[] pixels = Bench.with(Bench.SOME_PIXELS, place, value);
                Bench.dueState("put(" + place % 3 + ", " + place / 3 + ", " + value + ")",
                        Bench.SOME.and(x -> x.put(place % 3, place / 3, value)), 3, 2, pixels, Bench.SOME_FILE);
            }
        }
        Bench.dueState("all pixels of the greatest picture", Bench.drawn(8, 8, numbered(8, 8)), 8, 8, numbered(8, 8),
                new int[0]);
    }

    @Holds("Refused (false) when there is no such pixel.")
    static void putRefused() {
        int[] columns = {Integer.MIN_VALUE, -1, 3, 4, 8, Integer.MAX_VALUE};
        for (int column : columns) {
            for (int row = 0; row < 2; row++) {
                int y = row;
                Bench.dueRefused("put(" + column + ", " + y + ", 77)", x -> x.put(column, y, 77));
            }
        }
        int[] rows = {Integer.MIN_VALUE, -1, 2, 3, 8, Integer.MAX_VALUE};
        for (int row : rows) {
            for (int column = 0; column < 3; column++) {
                int place = column;
                Bench.dueRefused("put(" + place + ", " + row + ", 77)", x -> x.put(place, row, 77));
            }
        }
        Bench.dueRefused("put(3, 2, 77)", x -> x.put(3, 2, 77));
        Bench.dueRefused("put(-1, -1, 77)", x -> x.put(-1, -1, 77));
        Story greatest = Bench.drawn(8, 8, numbered(8, 8));
        Bench.dueRefused("put(8, 7, 77)", greatest, x -> x.put(8, 7, 77));
        Bench.dueRefused("put(7, 8, 77)", greatest, x -> x.put(7, 8, 77));
        Bench.dueState("put(7, 7, 77)", greatest.and(x -> x.put(7, 7, 77)), 8, 8,
                Bench.with(numbered(8, 8), 63, 77), new int[0]);
        Bench.dueRefused("put of a pixel that a smaller picture has no more",
                greatest.and(x -> x.make(2, 2)), x -> x.put(2, 0, 77));
    }

    @Holds("Pixel (x, y); 0 when there is none.")
    static void pixel() {
        int[] noColumns = {Integer.MIN_VALUE, -1, 3, 4, 100, Integer.MAX_VALUE};
        for (int column : noColumns) {
            for (int row = -1; row < 3; row++) {
                int y = row;
                Bench.dueUnchanged("pixel(" + column + ", " + y + ")", Bench.SOME, x -> x.pixel(column, y), 0);
            }
        }
        int[] noRows = {Integer.MIN_VALUE, -1, 2, 3, 100, Integer.MAX_VALUE};
        for (int row : noRows) {
            for (int column = -1; column < 4; column++) {
                int place = column;
                Bench.dueUnchanged("pixel(" + place + ", " + row + ")", Bench.SOME, x -> x.pixel(place, row), 0);
            }
        }
        for (int i = 0; i < 6; i++) {
            int place = i;
            Bench.dueUnchanged("pixel " + place, Bench.SOME, x -> x.pixel(place % 3, place / 3),
                    Bench.SOME_PIXELS[place]);
        }
        Story smaller = Bench.drawn(8, 8, numbered(8, 8)).and(x -> x.make(2, 2));
        Bench.dueState("behind a greater picture", smaller, 2, 2, Bench.filled(4, BLACK), new int[0]);
    }

    @Holds("The picture's width: how many columns it has.")
    static void width() {
        for (int side : INSIDE) {
            Bench.dueUnchanged("width of " + side + " by 3", Bench.drawn(side, 3), Subject::width, side);
        }
        Bench.dueUnchanged("width behind a refused make", Bench.SOME.and(x -> !x.make(9, 4)), Subject::width, 3);
        Bench.dueUnchanged("width of columns become rows", Bench.SOME.and(x -> x.change(2)), Subject::width, 2);
    }

    @Holds("The picture's height: how many rows it has.")
    static void height() {
        for (int side : INSIDE) {
            Bench.dueUnchanged("height of 3 by " + side, Bench.drawn(3, side), Subject::height, side);
        }
        Bench.dueUnchanged("height behind a refused make", Bench.SOME.and(x -> !x.make(4, 0)), Subject::height, 2);
        Bench.dueUnchanged("height of columns become rows", Bench.SOME.and(x -> x.change(2)), Subject::height, 3);
    }

    @Holds("A pixel has red, green, blue and alpha, R, G, B, A, each 0 .. 255, and is given as an int "
            + "R * 2^24 + G * 2^16 + B * 2^8 + A (wrapping).")
    static void pixelAsInt() {
        for (int i = 0; i < EDGES.length * EDGES.length; i++) {
            int one = EDGES[i % EDGES.length];
            int other = EDGES[i / EDGES.length];
            dueParts(one, other, other, other);
            dueParts(other, one, other, other);
            dueParts(other, other, one, other);
            dueParts(other, other, other, one);
        }
        Bench.dueState("127, 255, 255, 255", Bench.drawn(1, 1, Integer.MAX_VALUE), 1, 1,
                new int[] {0x7FFFFFFF}, new int[0]);
        dueParts(128, 0, 0, 0);
        Bench.due("128, 0, 0, 0 wraps", Bench.rgba(128, 0, 0, 0), Integer.MIN_VALUE);
        Bench.due("255, 255, 255, 255 wraps", Bench.rgba(255, 255, 255, 255), -1);
    }

    /** The parts of a pixel as the bytes B G R A of a file, which is read again. */
    private static void dueParts(int red, int green, int blue, int alpha) {
        int pixel = Bench.rgba(red, green, blue, alpha);
        int other = Bench.rgba(9, 8, 7, 6);
        int[] file = Bench.file(0, 0, 2, new int[9], 2, 0, 1, 0, 32, 40, blue, green, red, alpha, 7, 8, 9, 6);
        Bench.dueWritten("the parts of " + pixel, Bench.drawn(2, 1, pixel, other), 3, 0, file);
        Bench.dueRead("the parts of " + pixel, file, 3, 2, 1, pixel, other);
    }

    @Holds("Pixel (x, y) is column x of row y, row 0 being on top.")
    static void columnsAndRows() {
        int[] head = Bench.file(0, 0, 3, new int[9], 3, 0, 2, 0, 8, 32);
        for (int i = 0; i < 6; i++) {
            int place = i;
            int[] file = Bench.file(head, Bench.with(new int[6], place, 9));
            Story story = Bench.drawn(3, 2).and(x -> x.put(place % 3, place / 3, Bench.grey(9)));
            Bench.dueWritten("rows from the top down", story, 3, 0, file);
        }
    }

    @Holds("PICTURE ORDER is row 0 from left to right, then row 1, and so on.")
    static void pictureOrder() {
        int[] head = Bench.file("qoif", 0, 0, 0, 3, 0, 0, 0, 2, 3, 0);
        int[] chunks = {127, 127, 127, 127, 127, 127};
        Bench.dueRead("each pixel one more", Bench.file(head, chunks, new int[7], 1), 0, 3, 2,
                Bench.greys(1, 2, 3, 4, 5, 6));
    }

    @Holds("A picture is OPAQUE when all A are 255, and GREY when moreover R = G = B in all pixels.")
    static void opaqueAndGrey() {
        int[] places = {0, 1, 5, 62, 63};
        int[] notOpaque = {Bench.rgba(4, 4, 4, 254), Bench.rgba(4, 4, 4, 0), Bench.rgba(5, 4, 4, 254), 0};
        int[] notGrey = {Bench.rgb(5, 4, 4), Bench.rgb(4, 5, 4), Bench.rgb(4, 4, 5), Bench.rgb(5, 5, 4),
            Bench.rgb(255, 0, 0), Bench.rgb(0, 255, 255)};
        for (int place : places) {
            for (int pixel : notOpaque) {
                dueKind(Bench.drawn(8, 8, Bench.with(Bench.filled(64, Bench.grey(7)), place, pixel)), 4, 32);
            }
            for (int pixel : notGrey) {
                dueKind(Bench.drawn(8, 8, Bench.with(Bench.filled(64, Bench.grey(7)), place, pixel)), 3, 24);
            }
        }
        dueKind(Bench.drawn(8, 8, Bench.filled(64, Bench.grey(7))), 3, 8);
        dueKind(Bench.drawn(2, 1, Bench.grey(0), Bench.grey(255)), 3, 8);
        Story smaller = Bench.drawn(2, 2, 1, 2, 3, 4).and(x -> x.make(1, 1));
        dueKind(smaller, 3, 8);
    }

    /** Formats 0 and 3 tell in a byte of theirs what the picture is. */
    private static void dueKind(Story story, int channels, int depth) {
        Bench.due("byte 12 of format 0", Bench.written(story, 0, 0)[12], channels);
        Bench.due("byte 16 of format 3", Bench.written(story, 3, 0)[16], depth);
        if (channels == 4) {
            Bench.dueNotWritten("format 1, not opaque", story, 1, 0);
            Bench.dueNotWritten("format 2, not opaque", story, 2, 0);
        } else {
            Bench.due("byte 1 of format 1", Bench.written(story, 1, 0)[1], depth == 8 ? '5' : '6');
        }
    }

    private static int[] numbered(int width, int height) {
        int[] pixels = new int[width * height];
        for (int i = 0; i < pixels.length; i++) {
            pixels[i] = numbered(i % width + 8 * (i / width));
        }
        return pixels;
    }

    private static int numbered(int k) {
        return Bench.rgba(40 + 3 * k, 255 - 2 * k, 200 - k, 3 * k);
    }

    /** Changes pictures of all sizes, and looks where each pixel is then, and what it is. */
    private static void dueChanged(int how) {
        for (int size = 0; size < 64; size++) {
            int width = size % 8 + 1;
            int height = size / 8 + 1;
            int[] pixels = new int[width * height];
            for (int i = 0; i < pixels.length; i++) {
                int x = i % width;
                int y = i / width;
                int pixel = numbered(x + 8 * y);
                switch (how) {
                    case 0 -> pixels[y * width + width - 1 - x] = pixel;
                    case 1 -> pixels[(height - 1 - y) * width + x] = pixel;
                    default -> pixels[x * height + y] = pixel;
                }
            }
            Story story = Bench.drawn(width, height, numbered(width, height)).and(x -> x.feed(5))
                    .and(x -> x.change(how));
            Bench.dueState("change(" + how + ") of " + width + " by " + height, story, how == 2 ? height : width,
                    how == 2 ? width : height, pixels, new int[] {5});
        }
    }

    @Holds("Changes the picture: for how = 0 columns are exchanged left to right,")
    static void changeColumns() {
        dueChanged(0);
    }

    @Holds("for 1 rows top to bottom,")
    static void changeRows() {
        dueChanged(1);
    }

    @Holds("for 2 columns become rows (pixel (x, y) comes to (y, x)),")
    static void changeToRows() {
        dueChanged(2);
        Story greater = Bench.drawn(8, 1, numbered(8, 1)).and(x -> x.change(2)).and(x -> x.change(2));
        Bench.dueState("there and back", greater, 8, 1, numbered(8, 1), new int[0]);
    }

    @Holds("for 3 R, G and B of each pixel become (77 * R + 150 * G + 29 * B) / 256,")
    static void changeToGrey() {
        for (int k = 0; k < 216; k++) {
            int red = EDGES[k % 6];
            int green = EDGES[k / 6 % 6];
            int blue = EDGES[k / 36];
            int alpha = EDGES[(k + k / 6) % 6];
            int grey = (77 * red + 150 * green + 29 * blue) / 256;
            Story story = Bench.drawn(2, 1, 7, Bench.rgba(red, green, blue, alpha)).and(x -> x.change(3));
            Bench.dueState("grey of " + red + ", " + green + ", " + blue, story, 2, 1,
                    new int[] {7, Bench.rgba(grey, grey, grey, alpha)}, new int[0]);
        }
        Story story = Bench.drawn(4, 1, Bench.rgba(255, 255, 255, 7), Bench.rgba(255, 0, 0, 0),
                Bench.rgba(0, 255, 0, 255), Bench.rgba(10, 20, 200, 128));
        int[] greys = {Bench.rgba(255, 255, 255, 7), Bench.rgba(76, 76, 76, 0), Bench.rgba(149, 149, 149, 255),
            Bench.rgba(37, 37, 37, 128)};
        Bench.dueState("written out", story.and(x -> x.change(3)), 4, 1, greys, new int[0]);
        int[] all = Bench.filled(64, Bench.rgba(1, 2, 3, 4));
        Bench.dueState("all pixels", Bench.drawn(8, 8, all).and(x -> x.change(3)), 8, 8,
                Bench.filled(64, Bench.rgba(1, 1, 1, 4)), new int[0]);
    }

    @Holds("for 4 all A become 255.")
    static void changeToOpaque() {
        for (int alpha : EDGES) {
            int[] before = Bench.filled(64, Bench.rgba(200, 0, 3, alpha));
            Bench.dueState("alpha " + alpha, Bench.drawn(8, 8, before).and(x -> x.change(4)), 8, 8,
                    Bench.filled(64, Bench.rgb(200, 0, 3)), new int[0]);
        }
        Bench.dueState("on a file", Bench.SOME.and(x -> x.change(4)), 3, 2, Bench.row(255, 255, 255, 255, 255, -1),
                Bench.SOME_FILE);
    }

    @Holds("Refused (false) when how is not 0 .. 4.")
    static void changeRefused() {
        int[] outside = {Integer.MIN_VALUE, -2, -1, 5, 6, 256, Integer.MAX_VALUE};
        for (int how : outside) {
            Bench.dueRefused("change(" + how + ")", x -> x.change(how));
        }
        int[] inside = {0, 1, 3, 4};
        for (int how : inside) {
            Bench.due("change(" + how + ")", State.after(Bench.SOME.and(x -> x.change(how))).length,
                    State.size(Bench.SOME_FILE.length));
        }
        Bench.dueState("change(0), the first", Bench.SOME.and(x -> x.change(0)), 3, 2,
                Bench.row(13, 12, 11, -16, 15, 14), Bench.SOME_FILE);
        Bench.dueState("change(4), the last", Bench.SOME.and(x -> x.change(4)), 3, 2,
                Bench.row(255, 255, 255, 255, 255, -1), Bench.SOME_FILE);
    }
}
