/** Promises 14 and 15 with format 1. */
public final class SampleFormatTest {
    private static final int[] GREY_ROW = {Bench.grey(97), Bench.grey(98)};

    public static void main(String[] args) {
        writeGrey();
        writeColoured();
        readBytes();
        readDigits();
        readScaled();
        readSpacesAndComments();
        numberFaults();
        valueFaults();
        endFaults();
        readCutFile();
        readFullFile();
        Bench.end();
    }

    private static void writeGrey() {
        FourPictureFiles x = Bench.picture(2, 3, Bench.grey(0), Bench.grey(9), Bench.grey(10), Bench.grey(99),
                Bench.grey(100), Bench.grey(255));
        Bench.dueWritten("grey bytes", x, 1, 0, Bench.file("P5\n2 3\n255\n", 0, 9, 10, 99, 100, 255));
        Bench.dueWritten("grey digits", x, 1, 1, Bench.file("P2\n2 3\n255\n0 9\n10 99\n100 255\n"));
        Bench.dueWritten("a new object", new FourPictureFiles(), 1, 1, Bench.file("P2\n1 1\n255\n0\n"));
    }

    private static void writeColoured() {
        FourPictureFiles x = Bench.picture(2, 2, Bench.grey(7), Bench.rgb(1, 20, 255), Bench.grey(7), Bench.grey(8));
        Bench.dueWritten("colour bytes", x, 1, 0,
                Bench.file("P6\n2 2\n255\n", 7, 7, 7, 1, 20, 255, 7, 7, 7, 8, 8, 8));
        Bench.dueWritten("colour digits", x, 1, 1, Bench.file("P3\n2 2\n255\n7 7 7 1 20 255\n7 7 7 8 8 8\n"));
        int[] nearlyGrey = {Bench.rgb(5, 5, 6), Bench.rgb(5, 6, 5), Bench.rgb(6, 5, 5)};
        for (int pixel : nearlyGrey) {
            FourPictureFiles y = Bench.picture(1, 1, pixel);
            y.encode(1, 0);
            Bench.due("the kind of a coloured picture", y.byteAt(1), '6');
            y.encode(1, 1);
            Bench.due("the kind of a coloured picture in digits", y.byteAt(1), '3');
        }
    }

    private static void readBytes() {
        Bench.dueRead("P5", Bench.file("P5 2 1 255\nab"), 1, 2, 1, GREY_ROW);
        Bench.dueRead("P6", Bench.file("P6 1 2 255 ", 1, 2, 3, 4, 5, 255), 1, 1, 2,
                Bench.rgb(1, 2, 3), Bench.rgb(4, 5, 255));
        Bench.dueRead("a sample that looks like a space", Bench.file("P5 2 1 255\n\n "), 1, 2, 1,
                Bench.grey(10), Bench.grey(32));
        Bench.dueRead("a sample that looks like a comment", Bench.file("P5 2 1 255\t#1"), 1, 2, 1,
                Bench.grey(35), Bench.grey(49));
        Bench.dueShortBeginnings("P5", Bench.file("P5 2 1 255\nab"), 2);
        Bench.dueShortBeginnings("P6", Bench.file("P6\n8 1\n255\n", new int[24]), 2);
    }

    private static void readDigits() {
        Bench.dueRead("P2", Bench.file("P2 2 1 255 97 98"), 1, 2, 1, GREY_ROW);
        Bench.dueRead("P2 with a space behind", Bench.file("P2 2 1 255 97 98\n"), 1, 2, 1, GREY_ROW);
        Bench.dueRead("P3", Bench.file("P3 2 1 255\n1 2 3 4 5 6"), 1, 2, 1, Bench.rgb(1, 2, 3), Bench.rgb(4, 5, 6));
        Bench.dueRead("needless zeros", Bench.file("P2 0002 01 0255 0097 098"), 1, 2, 1, GREY_ROW);
        Bench.dueRead("cut in the last number", Bench.file("P2 2 1 255 97 9"), 1, 2, 1, Bench.grey(97), Bench.grey(9));
        Bench.dueShortBeginnings("P2", Bench.file("P2 2 1 255 97 9"), 2);
        Bench.dueShortBeginnings("P3", Bench.file("P3 1 1 255 97 9 8"), 2);
    }

    private static void readScaled() {
        Bench.dueRead("greatest 15", Bench.file("P2 4 1 15 0 7 8 15"), 1, 4, 1,
                Bench.grey(0), Bench.grey(119), Bench.grey(136), Bench.grey(255));
        Bench.dueRead("greatest 1", Bench.file("P5 2 1 1 ", 0, 1), 1, 2, 1, Bench.grey(0), Bench.grey(255));
        Bench.dueRead("greatest 2", Bench.file("P2 3 1 2 0 1 2"), 1, 3, 1, Bench.grey(0), Bench.grey(128), Bench.grey(255));
        Bench.dueRead("greatest 7", Bench.file("P3 1 1 7 1 3 5"), 1, 1, 1, Bench.rgb(36, 109, 182));
        Bench.dueRead("greatest 254", Bench.file("P6 1 1 254 ", 1, 127, 254), 1, 1, 1, Bench.rgb(1, 128, 255));
        for (int m = 1; m <= 255; m++) {
            for (int v = 0; v <= m; v += 1 + m / 4) {
                Bench.dueRead("scaled", Bench.file("P5 1 1 " + m + " ", v), 1, 1, 1, Bench.grey((v * 255 + m / 2) / m));
            }
            Bench.dueBroken("above the greatest", Bench.file("P2 1 1 " + m + " " + (m + 1)));
        }
    }

    private static void readSpacesAndComments() {
        Bench.dueRead("all spaces", Bench.file("P2\t\n\r 2\t1\r255\n\n\n97  98\t\r\n "), 1, 2, 1, GREY_ROW);
        Bench.dueRead("comments alone", Bench.file("P2#a\n2#\n1##x\n255#97\n97#\n98#end\n"), 1, 2, 1, GREY_ROW);
        Bench.dueRead("comments and spaces", Bench.file("P5 #a\n#b\n 2 #\r\n1 \n#c#d\n 255 ab"), 1, 2, 1, GREY_ROW);
        Bench.dueRead("comments behind", Bench.file("P2 2 1 255 97 98 #a\n #b\n#c\n"), 1, 2, 1, GREY_ROW);
        int[] spaces = {9, 10, 13, 32};
        for (int space : spaces) {
            Bench.dueRead("the space " + space, Bench.file("P5", space, "2 1 255", space, "ab"), 1, 2, 1, GREY_ROW);
        }
        for (int b = 0; b < 256; b++) {
            boolean space = b == 9 || b == 10 || b == 13 || b == 32;
            boolean digit = b >= '0' && b <= '9';
            if (!space && b != '#') {
                Bench.dueBroken("no space behind P5: " + b, Bench.file("P5", b, "2 1 255 ab"));
                Bench.dueBroken("no end: " + b, Bench.file("P2 2 1 255 97 98 ", b));
            }
            if (!space && !digit) {
                Bench.dueBroken("no space before the bytes: " + b, Bench.file("P5 2 1 255", b, "ab"));
            }
            if (!space && !digit && b != '#') {
                Bench.dueBroken("no digit: " + b, Bench.file("P2 2 1 255 ", b, "7 98"));
                Bench.dueBroken("no digit behind: " + b, Bench.file("P2 2 1 255 97", b, "98"));
            }
        }
    }

    private static void numberFaults() {
        Bench.dueShort("no space", Bench.file("P2"));
        Bench.dueShort("a space", Bench.file("P2 "));
        Bench.dueShort("a comment without an end", Bench.file("P2#2 1 255 97 98"));
        Bench.dueShort("a comment without an end at last", Bench.file("P2 2 1 255 97 98 #"));
        Bench.dueShort("a comment without an end at once", Bench.file("P2 2 1 255 97 98#x"));
        Bench.dueBroken("five digits", Bench.file("P2 00002 1 255 97 98"));
        Bench.dueBroken("five digits in a sample", Bench.file("P2 2 1 255 00097 98"));
        Bench.dueBroken("five digits at the end", Bench.file("P2 2 1 255 97 00098"));
        Bench.dueBroken("five digits of the greatest", Bench.file("P5 2 1 00255 ab"));
        Bench.dueShort("four digits, then nothing", Bench.file("P2 0002"));
        Bench.dueBroken("a sign", Bench.file("P2 2 1 255 97 -98"));
        Bench.dueBroken("no space between", Bench.file("P22 1 255 97 98"));
    }

    private static void valueFaults() {
        String[] wrongSides = {"0", "9", "10", "0000", "9999"};
        for (String side : wrongSides) {
            Bench.dueBroken("width " + side, Bench.file("P2 ", side, " 1 255 97 98"));
            Bench.dueBroken("width at the end of the file", Bench.file("P2 ", side));
            Bench.dueBroken("height " + side, Bench.file("P5 1 ", side, " 255 ab"));
            Bench.dueBroken("height at the end of the file", Bench.file("P5 1 ", side));
        }
        String[] wrongGreatest = {"0", "256", "1000", "9999"};
        for (String greatest : wrongGreatest) {
            Bench.dueBroken("greatest " + greatest, Bench.file("P2 1 1 ", greatest, " 0"));
            Bench.dueBroken("greatest at the end of the file", Bench.file("P6 1 1 ", greatest));
        }
        Bench.dueBroken("P2 above", Bench.file("P2 2 1 100 101 98"));
        Bench.dueBroken("P2 above at the end", Bench.file("P2 2 1 100 100 101"));
        Bench.dueBroken("P2 above, then nothing", Bench.file("P2 2 1 100 101"));
        Bench.dueBroken("P5 above", Bench.file("P5 2 1 96 ab"));
        Bench.dueBroken("P5 above, then nothing", Bench.file("P5 2 1 96 a"));
        Bench.dueBroken("P6 above in blue", Bench.file("P6 1 1 96 ``a"));
        Bench.dueRead("P6 at the greatest", Bench.file("P6 1 1 96 ```"), 1, 1, 1, Bench.grey(255));
    }

    /** Bytes that were cut off are not there any more. */
    private static void readCutFile() {
        FourPictureFiles x = new FourPictureFiles();
        Bench.feed(x, Bench.file("P2 2 1 255 97 981"));
        Bench.due("a sample above", x.decode(), FourPictureFiles.BROKEN);
        x.cut(16);
        Bench.due("its last digit cut off", x.decode(), 1);
        Bench.duePicture("its last digit cut off", x, 2, 1, GREY_ROW);
    }

    private static void readFullFile() {
        int[] spaces = new int[787];
        java.util.Arrays.fill(spaces, ' ');
        Bench.dueRead("800 bytes, a digit at last", Bench.file("P2 1 1 255", spaces, "097"), 1, 1, 1, Bench.grey(97));
        Bench.dueRead("800 bytes, spaces at last", Bench.file("P2 1 1 255 97", spaces), 1, 1, 1, Bench.grey(97));
        Bench.dueShort("800 bytes, a comment at last", Bench.file("P2 1 1 255 7#", spaces));
        Bench.dueShort("800 bytes, spaces alone", Bench.file("P2\n\n\n\n\n\n\n\n\n\n\n", spaces));
    }

    private static void endFaults() {
        Bench.dueBroken("P5 with a byte more", Bench.file("P5 2 1 255 abc"));
        Bench.dueBroken("P5 with a space more", Bench.file("P5 2 1 255 ab\n"));
        Bench.dueBroken("P6 with a byte more", Bench.file("P6 1 1 255 abcd"));
        Bench.dueBroken("P2 with a number more", Bench.file("P2 2 1 255 97 98 99"));
        Bench.dueBroken("P3 with a number more", Bench.file("P3 1 1 255 97 98 99 1"));
        Bench.dueBroken("P2 with a letter behind a comment", Bench.file("P2 2 1 255 97 98 #\nx"));
    }
}
