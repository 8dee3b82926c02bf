/** Promises 1 to 7: the picture without a file. */
public final class PictureTest {
    private static final int BLACK = 255;

    public static void main(String[] args) {
        newObject();
        make();
        put();
        pixel();
        exchanges();
        turn();
        greyAndOpaque();
        changesOfAllSizes();
        refusedChange();
        Bench.end();
    }

    private static void newObject() {
        FourPictureFiles x = new FourPictureFiles();
        Bench.duePicture("a new object", x, 1, 1, BLACK);
        Bench.due("length() of a new object", x.length(), 0);
        Bench.due("byteAt(0) of a new object", x.byteAt(0), -1);
        Bench.due("UNKNOWN", FourPictureFiles.UNKNOWN, -1);
        Bench.due("SHORT", FourPictureFiles.SHORT, -2);
        Bench.due("BROKEN", FourPictureFiles.BROKEN, -3);
        FourPictureFiles other = new FourPictureFiles();
        x.put(0, 0, 5);
        x.feed(9);
        Bench.duePicture("another object", other, 1, 1, BLACK);
        Bench.due("length() of another object", other.length(), 0);
    }

    private static void make() {
        FourPictureFiles x = Bench.picture(2, 2, 1, 2, 3, 4);
        int[] wrongSides = {0, 9, -1, Integer.MIN_VALUE, Integer.MAX_VALUE};
        for (int side : wrongSides) {
            Bench.due("make(" + side + ", 3)", x.make(side, 3), false);
            Bench.due("make(3, " + side + ")", x.make(3, side), false);
            Bench.duePicture("after a refused make", x, 2, 2, 1, 2, 3, 4);
        }
        x.feed(7);
        Bench.due("make(3, 1)", x.make(3, 1), true);
        Bench.duePicture("after make(3, 1)", x, 3, 1, BLACK, BLACK, BLACK);
        Bench.due("make(1, 8)", x.make(1, 8), true);
        Bench.duePicture("after make(1, 8)", x, 1, 8, BLACK, BLACK, BLACK, BLACK, BLACK, BLACK, BLACK, BLACK);
        Bench.due("make(8, 8)", x.make(8, 8), true);
        Bench.due("pixel(7, 7)", x.pixel(7, 7), BLACK);
        Bench.due("length() after make", x.length(), 1);
    }

    private static void put() {
        FourPictureFiles x = Bench.picture(3, 2);
        Bench.due("put(2, 1, -1)", x.put(2, 1, -1), true);
        Bench.due("put(0, 1, MIN)", x.put(0, 1, Integer.MIN_VALUE), true);
        Bench.due("put(1, 0, 0)", x.put(1, 0, 0), true);
        int[][] outside = {{3, 0}, {-1, 0}, {0, 2}, {0, -1}, {3, 2}, {Integer.MAX_VALUE, 0}, {0, Integer.MIN_VALUE}};
        for (int[] place : outside) {
            Bench.due("put outside", x.put(place[0], place[1], 77), false);
        }
        Bench.duePicture("after put", x, 3, 2, BLACK, 0, BLACK, Integer.MIN_VALUE, BLACK, -1);
    }

    private static void pixel() {
        FourPictureFiles x = Bench.picture(3, 2, 1, 2, 3, 4, 5, 6);
        Bench.due("pixel(2, 0)", x.pixel(2, 0), 3);
        Bench.due("pixel(0, 1)", x.pixel(0, 1), 4);
        int[][] outside = {{3, 0}, {-1, 1}, {0, 2}, {1, -1}, {Integer.MIN_VALUE, 0}, {0, Integer.MAX_VALUE}};
        for (int[] place : outside) {
            Bench.due("pixel outside", x.pixel(place[0], place[1]), 0);
        }
        x.make(8, 8);
        x.put(7, 7, 9);
        x.make(2, 2);
        Bench.due("pixel(7, 7) of a smaller picture", x.pixel(7, 7), 0);
    }

    private static void exchanges() {
        FourPictureFiles x = Bench.picture(3, 2, 1, 2, 3, 4, 5, 6);
        Bench.due("change(0)", x.change(0), true);
        Bench.duePicture("columns exchanged", x, 3, 2, 3, 2, 1, 6, 5, 4);
        Bench.due("change(1)", x.change(1), true);
        Bench.duePicture("rows exchanged", x, 3, 2, 6, 5, 4, 3, 2, 1);
        x = Bench.picture(2, 3, 1, 2, 3, 4, 5, 6);
        x.change(1);
        Bench.duePicture("three rows exchanged", x, 2, 3, 5, 6, 3, 4, 1, 2);
        x.change(0);
        Bench.duePicture("two columns exchanged", x, 2, 3, 6, 5, 4, 3, 2, 1);
    }

    private static void turn() {
        FourPictureFiles x = Bench.picture(3, 2, 1, 2, 3, 4, 5, 6);
        Bench.due("change(2)", x.change(2), true);
        Bench.duePicture("turned", x, 2, 3, 1, 4, 2, 5, 3, 6);
        x.change(2);
        Bench.duePicture("turned back", x, 3, 2, 1, 2, 3, 4, 5, 6);
        x = Bench.picture(8, 1, 1, 2, 3, 4, 5, 6, 7, 8);
        x.change(2);
        Bench.duePicture("a row turned", x, 1, 8, 1, 2, 3, 4, 5, 6, 7, 8);
    }

    private static void greyAndOpaque() {
        FourPictureFiles x = Bench.picture(4, 1, Bench.rgba(255, 255, 255, 7), Bench.rgba(255, 0, 0, 0),
                Bench.rgba(0, 255, 0, 255), Bench.rgba(10, 20, 200, 128));
        x.feed(3);
        Bench.due("change(3)", x.change(3), true);
        Bench.duePicture("grey", x, 4, 1, Bench.rgba(255, 255, 255, 7), Bench.rgba(76, 76, 76, 0),
                Bench.rgba(149, 149, 149, 255), Bench.rgba(37, 37, 37, 128));
        Bench.due("change(4)", x.change(4), true);
        Bench.duePicture("opaque", x, 4, 1, Bench.grey(255), Bench.grey(76), Bench.grey(149), Bench.grey(37));
        Bench.due("length() after change", x.length(), 1);
    }

    private static int numbered(int x, int y) {
        return Bench.rgba(40 + 9 * x, 7 * y, 200 - x - 8 * y, 3 * x + y);
    }

    private static void changesOfAllSizes() {
        for (int size = 0; size < 64; size++) {
            int width = size % 8 + 1;
            int height = size / 8 + 1;
            for (int how = 0; how < 5; how++) {
                FourPictureFiles x = Bench.picture(width, height);
                for (int i = 0; i < width * height; i++) {
                    x.put(i % width, i / width, numbered(i % width, i / width));
                }
                Bench.due("change(" + how + ")", x.change(how), true);
                Bench.due("width", x.width(), how == 2 ? height : width);
                Bench.due("height", x.height(), how == 2 ? width : height);
                for (int i = 0; i < width * height; i++) {
                    dueChanged(x, i % width, i / width, how);
                }
            }
        }
    }

    /** Looks where the pixel that was at (x, y) is now. */
    private static void dueChanged(FourPictureFiles file, int x, int y, int how) {
        int pixel = numbered(x, y);
        int grey = (77 * (pixel >>> 24) + 150 * (pixel >>> 16 & 255) + 29 * (pixel >>> 8 & 255)) / 256;
        String what = "after change(" + how + ")";
        switch (how) {
            case 0 -> Bench.due(what, file.pixel(file.width() - 1 - x, y), pixel);
            case 1 -> Bench.due(what, file.pixel(x, file.height() - 1 - y), pixel);
            case 2 -> Bench.due(what, file.pixel(y, x), pixel);
            case 3 -> Bench.due(what, file.pixel(x, y), Bench.rgba(grey, grey, grey, pixel & 255));
            default -> Bench.due(what, file.pixel(x, y), pixel | 255);
        }
    }

    private static void refusedChange() {
        FourPictureFiles x = Bench.picture(3, 2, 1, 2, 3, 4, 5, 6);
        int[] wrongHow = {-1, 5, Integer.MIN_VALUE, Integer.MAX_VALUE};
        for (int how : wrongHow) {
            Bench.due("change(" + how + ")", x.change(how), false);
            Bench.duePicture("after a refused change", x, 3, 2, 1, 2, 3, 4, 5, 6);
        }
    }
}
