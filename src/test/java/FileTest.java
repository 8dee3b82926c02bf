/** Promises 8 to 13: the file as a row of bytes, and its format; and what encode and decode refuse. */
public final class FileTest {
    public static void main(String[] args) {
        feed();
        fullFile();
        cut();
        alter();
        byteAt();
        sniffByFirstBytes();
        sniffFormat3();
        refusedEncode();
        unknownDecode();
        Bench.end();
    }

    private static void feed() {
        FourPictureFiles x = new FourPictureFiles();
        Bench.due("feed(0)", x.feed(0), true);
        Bench.due("feed(255)", x.feed(255), true);
        int[] wrongBytes = {-1, 256, Integer.MIN_VALUE, Integer.MAX_VALUE};
        for (int b : wrongBytes) {
            Bench.due("feed(" + b + ")", x.feed(b), false);
        }
        Bench.due("the file", Bench.bytesOf(x), new int[] {0, 255});
        Bench.duePicture("after feed", x, 1, 1, 255);
    }

    private static void fullFile() {
        FourPictureFiles x = Bench.picture(8, 8);
        for (int i = 0; i < 64; i++) {
            x.put(i % 8, i / 8, Bench.rgb(100 + i, 200, 201));
        }
        Bench.due("the longest file", x.encode(1, 1), 779);
        for (int i = 0; i < 21; i++) {
            Bench.due("feed up to 800", x.feed(i), true);
        }
        Bench.due("feed above 800", x.feed(1), false);
        Bench.due("length()", x.length(), 800);
        Bench.due("byteAt(799)", x.byteAt(799), 20);
        Bench.due("alter(799, 3)", x.alter(799, 3), true);
        Bench.due("alter(800, 3)", x.alter(800, 3), false);
        Bench.due("byteAt(799)", x.byteAt(799), 3);
        Bench.due("byteAt(800)", x.byteAt(800), -1);
        Bench.due("cut(800)", x.cut(800), true);
        Bench.due("cut(801)", x.cut(801), false);
        Bench.due("cut(799)", x.cut(799), true);
        Bench.due("feed again", x.feed(1), true);
        Bench.due("byteAt(799)", x.byteAt(799), 1);
    }

    private static void cut() {
        FourPictureFiles x = new FourPictureFiles();
        Bench.due("cut(0) of an empty file", x.cut(0), true);
        Bench.due("cut(1) of an empty file", x.cut(1), false);
        Bench.feed(x, new int[] {5, 6, 7});
        int[] wrongLengths = {-1, 4, Integer.MIN_VALUE, Integer.MAX_VALUE};
        for (int n : wrongLengths) {
            Bench.due("cut(" + n + ")", x.cut(n), false);
        }
        Bench.due("after a refused cut", Bench.bytesOf(x), new int[] {5, 6, 7});
        Bench.due("cut(3)", x.cut(3), true);
        Bench.due("after cut(3)", Bench.bytesOf(x), new int[] {5, 6, 7});
        Bench.due("cut(2)", x.cut(2), true);
        Bench.due("after cut(2)", Bench.bytesOf(x), new int[] {5, 6});
        Bench.due("byteAt(2) after cut(2)", x.byteAt(2), -1);
        Bench.due("alter(2, 1) after cut(2)", x.alter(2, 1), false);
        Bench.due("cut(0)", x.cut(0), true);
        Bench.due("length() after cut(0)", x.length(), 0);
    }

    private static void alter() {
        FourPictureFiles x = new FourPictureFiles();
        Bench.feed(x, new int[] {5, 6, 7});
        Bench.due("alter(0, 255)", x.alter(0, 255), true);
        Bench.due("alter(2, 0)", x.alter(2, 0), true);
        int[][] refused = {{3, 1}, {-1, 1}, {1, 256}, {1, -1}, {Integer.MIN_VALUE, 0}, {Integer.MAX_VALUE, 0}};
        for (int[] call : refused) {
            Bench.due("alter(" + call[0] + ", " + call[1] + ")", x.alter(call[0], call[1]), false);
        }
        Bench.due("after alter", Bench.bytesOf(x), new int[] {255, 6, 0});
    }

    private static void byteAt() {
        FourPictureFiles x = new FourPictureFiles();
        Bench.feed(x, new int[] {200, 6});
        Bench.due("byteAt(0)", x.byteAt(0), 200);
        Bench.due("byteAt(1)", x.byteAt(1), 6);
        int[] wrongPlaces = {-1, 2, Integer.MIN_VALUE, Integer.MAX_VALUE};
        for (int i : wrongPlaces) {
            Bench.due("byteAt(" + i + ")", x.byteAt(i), -1);
        }
    }

    private static void dueSniff(int format, int[] file) {
        FourPictureFiles x = new FourPictureFiles();
        Bench.feed(x, file);
        Bench.due("sniff() of " + java.util.Arrays.toString(file), x.sniff(), format);
        Bench.due("the file after sniff()", Bench.bytesOf(x), file);
        Bench.duePicture("after sniff()", x, 1, 1, 255);
    }

    private static void sniffByFirstBytes() {
        dueSniff(-1, Bench.file());
        dueSniff(0, Bench.file("qoif"));
        dueSniff(0, Bench.file("qoifx"));
        dueSniff(-1, Bench.file("qoi"));
        String[] nearly = {"aoif", "qaif", "qoaf", "qoia"};
        for (String text : nearly) {
            dueSniff(-1, Bench.file(text));
        }
        for (int kind = '0'; kind <= '9'; kind++) {
            boolean known = kind == '2' || kind == '3' || kind == '5' || kind == '6';
            dueSniff(known ? 1 : -1, Bench.file("P", kind));
        }
        dueSniff(-1, Bench.file("P"));
        dueSniff(-1, Bench.file("p5"));
        dueSniff(2, Bench.file("BM"));
        dueSniff(-1, Bench.file("B"));
        dueSniff(-1, Bench.file("BN"));
        dueSniff(-1, Bench.file("AM"));
        dueSniff(-1, Bench.file("2P"));
    }

    private static void sniffFormat3() {
        for (int kind = 0; kind < 16; kind++) {
            for (int depth = 0; depth < 40; depth++) {
                boolean coloured = (kind == 2 || kind == 10) && (depth == 24 || depth == 32);
                boolean grey = (kind == 3 || kind == 11) && depth == 8;
                int[] file = new int[18];
                file[2] = kind;
                file[16] = depth;
                dueSniff(coloured || grey ? 3 : -1, file);
                dueSniff(-1, Bench.with(file, 1, 1));
                dueSniff(-1, Bench.without(file, 1));
            }
        }
        dueSniff(3, Bench.with(Bench.with(new int[19], 2, 3), 16, 8));
        dueSniff(3, Bench.file("B", 0, 2, new int[13], 24, 0));
    }

    private static void refusedEncode() {
        FourPictureFiles x = Bench.picture(2, 1, Bench.grey(3), Bench.rgb(1, 2, 3));
        Bench.feed(x, new int[] {1, 2, 3});
        int[][] calls = {{-1, 0}, {4, 0}, {0, -1}, {0, 2}, {1, 2}, {2, -1}, {3, 2},
            {Integer.MIN_VALUE, 0}, {0, Integer.MAX_VALUE}};
        for (int[] call : calls) {
            Bench.dueRefused("encode(" + call[0] + ", " + call[1] + ")", x, call[0], call[1]);
        }
        x.put(1, 0, Bench.rgba(1, 2, 3, 254));
        for (int how = 0; how < 2; how++) {
            Bench.dueRefused("format 1, not opaque", x, 1, how);
            Bench.dueRefused("format 2, not opaque", x, 2, how);
        }
    }

    private static void unknownDecode() {
        Bench.dueFault("an empty file", Bench.file(), FourPictureFiles.UNKNOWN);
        Bench.dueFault("no format", Bench.file("qoi", 0), FourPictureFiles.UNKNOWN);
        Bench.dueFault("P4", Bench.file("P4 1 1 "), FourPictureFiles.UNKNOWN);
        int[] tooFew = new int[17];
        tooFew[2] = 2;
        tooFew[16] = 24;
        Bench.dueFault("17 bytes", tooFew, FourPictureFiles.UNKNOWN);
    }
}
