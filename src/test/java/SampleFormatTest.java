import java.util.Arrays;

/** Format 1, read and written. */
public final class SampleFormatTest {
    private static final int[] GREY_ROW = Bench.greys(97, 98);
    private static final int[] SPACES = {9, 10, 13, 32};

    public static void main(String[] args) {
        Bench.run(SampleFormatTest.class);
    }

    private static boolean isSpace(int b) {
        return b == 9 || b == 10 || b == 13 || b == 32;
    }

    private static boolean isDigit(int b) {
        return b >= 48 && b <= 57;
    }

    private static void dueGreyRow(String what, Object... parts) {
        Bench.dueRead(what, Bench.file(parts), 1, 2, 1, GREY_ROW);
    }

    private static void dueBroken(String what, Object... parts) {
        Bench.dueBroken(what, Bench.file(parts));
    }

    private static void dueShort(String what, Object... parts) {
        Bench.dueShort(what, Bench.file(parts));
    }

    @Holds("FORMAT 1. The two bytes; three NUMBERS, the width, the height and the GREATEST value 1 .. 255;")
    static void threeNumbers() {
        String[] kinds = {"P2 ", "P3 ", "P5 ", "P6 "};
        String[] wrongSides = {"0", "9", "10", "80", "0000", "0009", "9999"};
        String[] wrongGreatest = {"0", "256", "257", "1000", "0000", "0256", "9999"};
        for (String kind : kinds) {
            for (String side : wrongSides) {
                dueBroken("width " + side, kind, side, " 1 255 1 1 1");
                dueBroken("width " + side + ", then nothing", kind, side);
                dueBroken("height " + side, kind, "1 ", side, " 255 1 1 1");
                dueBroken("height " + side + ", then nothing", kind, "1 ", side);
            }
            for (String greatest : wrongGreatest) {
                dueBroken("greatest " + greatest, kind, "1 1 ", greatest, " 0 0 0");
                dueBroken("greatest " + greatest + ", then nothing", kind, "1 1 ", greatest);
            }
        }
        for (int side = 1; side <= 8; side++) {
            int[] bytes = Bench.filled(side, 255);
            int[] pixels = Bench.filled(side, Bench.grey(255));
            Bench.dueRead("width " + side, Bench.file("P5 " + side + " 1 255 ", bytes), 1, side, 1, pixels);
            Bench.dueRead("height " + side, Bench.file("P5 1 " + side + " 255 ", bytes), 1, 1, side, pixels);
        }
        int[] greatest = {1, 2, 254, 255};
        for (int m : greatest) {
            Bench.dueRead("greatest " + m, Bench.file("P2 2 1 " + m + " 0 " + m), 1, 2, 1, Bench.greys(0, 255));
            Bench.dueRead("greatest " + m, Bench.file("P5 2 1 " + m + " ", 0, m), 1, 2, 1, Bench.greys(0, 255));
        }
        Bench.dueShortBeginnings("the numbers of P2", Bench.file("P2 2 1 255"), 2);
        dueShort("the numbers of P2 alone", "P2 2 1 255");
    }

    @Holds("then, for P5 and P6, one byte that is a SPACE (9, 10, 13, 32), and a byte for each sample;")
    static void spaceAndBytes() {
        for (int b = 0; b < 256; b++) {
            if (isSpace(b)) {
                dueGreyRow("P5 with " + b, "P5 2 1 255", b, "ab");
                Bench.dueRead("P6 with " + b, Bench.file("P6 1 1 255", b, "abc"), 1, 1, 1, Bench.rgb(97, 98, 99));
                Bench.dueRead("a second one is a sample", Bench.file("P5 2 1 255", b, b, "a"), 1, 2, 1,
                        Bench.greys(b, 97));
            } else if (!isDigit(b)) {
                dueBroken("P5 with " + b, "P5 2 1 255", b, "ab");
                dueBroken("P5 with " + b + ", then nothing", "P5 2 1 255", b);
                dueBroken("P6 with " + b, "P6 1 1 255", b, "abc");
            }
        }
        dueBroken("no comment stands for it", "P5 2 1 255#\nab");
        dueShort("no space", "P5 2 1 255");
        dueShort("no sample", "P5 2 1 255 ");
        dueShort("a sample too few", "P5 2 1 255 a");
        Bench.dueRead("samples like a space and a comment", Bench.file("P5 2 1 255\t#1"), 1, 2, 1, Bench.greys(35, 49));
        Bench.dueRead("samples 0 and 255", Bench.file("P5 2 1 255 ", 0, 255), 1, 2, 1, Bench.greys(0, 255));
        Bench.dueShortBeginnings("P6", Bench.file("P6\n8 1\n255\n", new int[24]), 2);
        Bench.dueRead("64 pixels", Bench.file("P6\n8 8\n255\n", Bench.filled(192, 9)), 1, 8, 8,
                Bench.filled(64, Bench.grey(9)));
        dueShort("64 pixels, a byte too few", "P6\n8 8\n255\n", Bench.filled(191, 9));
    }

    @Holds("for P2 and P3 a number for each sample.")
    static void numbers() {
        dueGreyRow("P2", "P2 2 1 255 97 98");
        Bench.dueRead("P3", Bench.file("P3 2 1 255\n1 2 3 4 5 6"), 1, 2, 1, Bench.rgb(1, 2, 3), Bench.rgb(4, 5, 6));
        dueShort("P2, a number too few", "P2 2 1 255 97");
        dueShort("P2, a number too few, and a space", "P2 2 1 255 97 ");
        dueBroken("P2, a number too many", "P2 2 1 255 97 98 99");
        dueShort("P3, a number too few", "P3 1 1 255 1 2");
        dueBroken("P3, a number too many", "P3 1 1 255 1 2 3 4");
        dueBroken("a sign", "P2 2 1 255 97 -98");
        dueBroken("a letter", "P2 2 1 255 97 a");
        Bench.dueRead("no space needed behind the greatest but the number's own", Bench.file("P2 1 1 255#\n7"), 1, 1, 1,
                Bench.grey(7));
        Bench.dueRead("cut in the last number", Bench.file("P2 2 1 255 97 9"), 1, 2, 1, Bench.greys(97, 9));
        Bench.dueShortBeginnings("P2", Bench.file("P2 2 1 255 97 9"), 2);
        Bench.dueShortBeginnings("P3", Bench.file("P3 1 1 255 97 9 8"), 2);
    }

    @Holds("Then, for P5 and P6, the end; for P2 and P3 any spaces and comments, and the end.")
    static void theEnd() {
        for (int b = 0; b < 256; b++) {
            dueBroken("P5 with " + b + " behind", "P5 2 1 255 ab", b);
            dueBroken("P6 with " + b + " behind", "P6 1 1 255 abc", b);
            if (isSpace(b)) {
                dueGreyRow("P2 with " + b + " behind", "P2 2 1 255 97 98", b);
                dueGreyRow("P2 with " + b + " behind a comment", "P2 2 1 255 97 98#x\n", b);
            } else if (b != '#') {
                dueBroken("P2 with " + b + " behind a space", "P2 2 1 255 97 98 ", b);
                dueBroken("P2 with " + b + " behind a comment", "P2 2 1 255 97 98#x\n", b);
            }
            if (!isSpace(b) && !isDigit(b) && b != '#') {
                dueBroken("P2 with " + b + " behind", "P2 2 1 255 97 98", b);
            }
        }
        dueGreyRow("P5, the end", "P5 2 1 255 ab");
        dueGreyRow("P2, the end", "P2 2 1 255 97 98");
        dueGreyRow("P2, spaces and comments", "P2 2 1 255 97 98 #a\n #b\n#c\n\t\r\n ");
        Bench.dueRead("P3, spaces and comments", Bench.file("P3 1 1 255 1 2 3\n#a\n "), 1, 1, 1, Bench.rgb(1, 2, 3));
        dueShort("P2, a comment that does not end", "P2 2 1 255 97 98 #a");
        dueShort("P2, a # at last", "P2 2 1 255 97 98#");
        dueShort("P3, a comment that does not end", "P3 1 1 255 1 2 3 # 4");
        Story cut = Bench.fed(Bench.file("P5 2 1 255 abc")).and(Subject::decode, FourPictureFiles.BROKEN)
                .and(x -> x.cut(13)).and(Subject::decode, 1);
        Bench.dueState("the byte behind is cut off", cut, 2, 1, GREY_ROW, Bench.file("P5 2 1 255 ab"));
        dueEndOfFullFile();
    }

    private static void dueEndOfFullFile() {
        int[] pixels = Bench.filled(64, Bench.rgb(100, 150, 200));
        int[] longest = Bench.longestFile();
        Bench.dueRead("spaces up to 800", Bench.file(longest, Bench.filled(21, 32)), 1, 8, 8, pixels);
        Bench.dueRead("a comment up to 800", Bench.file(longest, "#", Bench.filled(19, 'x'), 10), 1, 8, 8, pixels);
        Bench.dueShort("a comment beyond 800", Bench.file(longest, "#", Bench.filled(20, 'x')));
        Bench.dueBroken("a letter at 799", Bench.file(longest, Bench.filled(20, 32), "x"));
        int[] late = Bench.with(longest, 775, 32, 32, 32, 32);
        Bench.dueRead("a digit at 799", Bench.file(late, Bench.filled(18, 32), "200"), 1, 8, 8, pixels);
        Bench.dueShort("spaces alone up to 800", Bench.file(late, Bench.filled(21, 32)));
    }

    @Holds("There is one sample a pixel for P2 and P5 (R, G and B), three for P3 and P6 (R, G, B).")
    static void samples() {
        Bench.dueRead("P2", Bench.file("P2 1 2 255 1 2"), 1, 1, 2, Bench.greys(1, 2));
        Bench.dueRead("P5", Bench.file("P5 1 2 255 ", 1, 2), 1, 1, 2, Bench.greys(1, 2));
        Bench.dueRead("P3", Bench.file("P3 1 2 255 1 2 3 4 5 6"), 1, 1, 2, Bench.rgb(1, 2, 3), Bench.rgb(4, 5, 6));
        Bench.dueRead("P6", Bench.file("P6 1 2 255 ", 1, 2, 3, 4, 5, 6), 1, 1, 2, Bench.rgb(1, 2, 3),
                Bench.rgb(4, 5, 6));
        Bench.dueRead("picture order", Bench.file("P5 2 2 255 ", 1, 2, 3, 4), 1, 2, 2, Bench.greys(1, 2, 3, 4));
        dueBroken("P5 with three a pixel", "P5 1 1 255 ", 1, 2, 3);
        dueShort("P6 with one a pixel", "P6 1 1 255 ", 1);
        dueShort("P6 with two a pixel", "P6 1 1 255 ", 1, 2);
        dueBroken("P6 with four a pixel", "P6 1 1 255 ", 1, 2, 3, 4);
    }

    @Holds("A number: one or more spaces and COMMENTS (from a # to the byte 10, which belongs to it), then one to four "
            + "digits; behind the fourth no digit may stand.")
    static void number() {
        for (int space : SPACES) {
            dueGreyRow("the space " + space, "P2", space, "2", space, "1", space, "255", space, "97", space, "98");
        }
        dueGreyRow("many spaces", "P2\t\n\r 2\t1\r255\n\n\n97  98");
        dueGreyRow("comments alone", "P2#a\n2#\n1##x\n255#97\n97#\n98#end\n");
        dueGreyRow("comments and spaces", "P5 #a\n#b\n 2 #\r\n1 \n#c#d\n 255 ab");
        dueGreyRow("all bytes but 10 in a comment", "P2#", commentBytes(), 10, "2 1 255 97 98");
        dueBroken("a comment does not go beyond 10", "P2 2 1 255 #\nx\n97 98");
        dueBroken("no space", "P22 1 255 97 98");
        for (int b = 0; b < 256; b++) {
            if (!isSpace(b) && b != '#') {
                dueBroken("no space, but " + b, "P5", b, "2 1 255 ab");
                dueBroken("no space, but " + b + ", then nothing", "P5", b);
            }
            if (!isSpace(b) && b != '#' && !isDigit(b)) {
                dueBroken("no digit, but " + b, "P2 2 1 255 ", b, "7 98");
                dueBroken("no digit, but " + b + ", then nothing", "P2 2 1 255 ", b);
                dueBroken("no space behind, but " + b, "P2 2 1 255 97", b, "98");
            }
        }
        dueDigits();
    }

    private static int[] commentBytes() {
        int[] bytes = new int[255];
        for (int k = 0; k < 255; k++) {
            bytes[k] = k < 10 ? k : k + 1;
        }
        return bytes;
    }

    private static void dueDigits() {
        dueShort("no digit at all", "P2 ");
        dueBroken("no digit at all, but a letter", "P2 x");
        Bench.dueRead("one digit", Bench.file("P2 1 1 9 9"), 1, 1, 1, Bench.grey(255));
        dueGreyRow("two to four digits", "P2 02 001 0255 097 0098");
        dueGreyRow("three and four digits", "P2 0002 0001 255 0097 098");
        for (int digit = 0; digit <= 9; digit++) {
            dueBroken("five digits of the width", "P2 0002" + digit + " 1 255 97 98");
            dueBroken("five digits of the width, then nothing", "P2 0002" + digit);
            dueBroken("five digits of the height", "P2 2 0001" + digit + " 255 97 98");
            dueBroken("five digits of the greatest", "P5 2 1 0255" + digit + " ab");
            dueBroken("five digits of a sample", "P2 2 1 255 0009" + digit + " 98");
            dueBroken("five digits at the end", "P2 2 1 255 97 0009" + digit);
            Bench.dueRead("the digit " + digit, Bench.file("P2 1 1 255 1" + digit + digit), 1, 1, 1,
                    Bench.grey(100 + 11 * digit));
        }
        dueBroken("six digits", "P2 000002 1 255 97 98");
        dueShort("four digits, then nothing", "P2 0002");
        dueBroken("9999", "P2 1 1 255 9999");
        Bench.dueRead("no digits belong together over a comment", Bench.file("P2 1 2 255 9#\n8"), 1, 1, 2,
                Bench.greys(9, 8));
    }

    @Holds("(A number ends where no digit stands, also at the end of the file; a comment that does not end makes it SHORT.)")
    static void numberEnds() {
        dueGreyRow("at a space", "P2 2 1 255 97 98 ");
        dueGreyRow("at a #", "P2 2#\n1#\n255#\n97#\n98#\n");
        dueGreyRow("at the end of the file", "P2 2 1 255 97 98");
        dueGreyRow("at the end of the file with four digits", "P2 2 1 255 97 0098");
        dueBroken("at another byte", "P2 2 1 255 97 98x");
        dueShort("the width at the end of the file", "P2 2");
        dueShort("the height at the end of the file", "P2 2 1");
        dueShort("the greatest at the end of the file", "P2 2 1 255");
        dueBroken("a wrong width at the end of the file", "P2 9");
        dueBroken("a wrong sample at the end of the file", "P2 1 1 100 101");
        Bench.dueRead("a right sample at the end of the file", Bench.file("P2 1 1 100 100"), 1, 1, 1, Bench.grey(255));
        Story cut = Bench.fed(Bench.file("P2 2 1 255 97 981")).and(Subject::decode, FourPictureFiles.BROKEN)
                .and(x -> x.cut(16)).and(Subject::decode, 1);
        Bench.dueState("a digit that was cut off is not there", cut, 2, 1, GREY_ROW, Bench.file("P2 2 1 255 97 98"));
        dueShort("a comment that does not end before the width", "P2#2 1 255 97 98");
        dueShort("a comment that does not end before the height", "P2 2 #1 255 97 98");
        dueShort("a comment that does not end before the greatest", "P5 2 1 # 255 ab");
        dueShort("a comment that does not end before a sample", "P2 2 1 255 97 # 98");
        dueShort("a comment that does not end behind all samples", "P2 2 1 255 97 98 # 98");
        dueShort("a # alone", "P2#");
        dueShort("a comment with 13 at its end", "P2 2 1 255 97 98 #\r");
        dueGreyRow("a comment that ends with the file", "P2 2 1 255 97 98 #\n");
    }

    @Holds("A sample is not above the greatest value m;")
    static void sampleNotAbove() {
        for (int m = 1; m <= 255; m++) {
            Bench.dueRead("P2, " + m, Bench.file("P2 1 1 " + m + " " + m), 1, 1, 1, Bench.grey(255));
            dueBroken("P2, above " + m, "P2 1 1 " + m + " " + (m + 1));
            Bench.dueRead("P5, " + m, Bench.file("P5 1 1 " + m + " ", m), 1, 1, 1, Bench.grey(255));
            if (m < 255) {
                dueBroken("P5, above " + m, "P5 1 1 " + m + " ", m + 1);
            }
        }
        for (int k = 0; k < 3; k++) {
            int[] samples = Bench.with(Bench.filled(3, 96), k, 97);
            dueBroken("P6, above in " + k, "P6 1 1 96 ", samples);
            dueBroken("P3, above in " + k, "P3 1 1 96 " + samples[0] + " " + samples[1] + " " + samples[2]);
            Bench.dueBrokenAtLast("P6, above, then nothing",
                    Bench.file("P6 1 1 96 ", Arrays.copyOf(samples, k + 1)));
        }
        Bench.dueRead("P6, none above", Bench.file("P6 1 1 96 ```"), 1, 1, 1, Bench.grey(255));
        dueBroken("the last sample above", "P2 2 1 100 100 101");
        dueBroken("the first sample above, then nothing", "P2 2 1 100 101");
        dueBroken("P5 with 255 above 254", "P5 1 1 254 ", 255);
        dueBroken("P2 with 256 above 255", "P2 1 1 255 256");
    }

    @Holds("a sample v is (v * 255 + m / 2) / m.")
    static void sampleScaled() {
        for (int m = 1; m <= 255; m++) {
            for (int v = 0; v <= m; v += 1 + m / 16) {
                int value = (v * 255 + m / 2) / m;
                Bench.dueRead("P5, " + v + " of " + m, Bench.file("P5 1 1 " + m + " ", v), 1, 1, 1, Bench.grey(value));
                Bench.dueRead("P2, " + v + " of " + m, Bench.file("P2 1 1 " + m + " " + v), 1, 1, 1, Bench.grey(value));
            }
        }
        Bench.dueRead("of 15", Bench.file("P2 4 1 15 0 7 8 15"), 1, 4, 1, Bench.greys(0, 119, 136, 255));
        Bench.dueRead("of 2", Bench.file("P2 3 1 2 0 1 2"), 1, 3, 1, Bench.greys(0, 128, 255));
        Bench.dueRead("of 7", Bench.file("P3 1 1 7 1 3 5"), 1, 1, 1, Bench.rgb(36, 109, 182));
        Bench.dueRead("of 254", Bench.file("P6 1 1 254 ", 1, 127, 254), 1, 1, 1, Bench.rgb(1, 128, 255));
    }

    @Holds("WRITING, for how = 0 P5 for a grey picture and P6 for others, for how = 1 P2 and P3: the two bytes, 10, the "
            + "width, 32, the height, 10, the digits of 255, 10, the samples;")
    static void written() {
        Story grey = Bench.drawn(2, 3, Bench.greys(0, 9, 10, 99, 100, 255));
        Bench.dueWritten("P5", grey, 1, 0, Bench.file("P5\n2 3\n255\n", 0, 9, 10, 99, 100, 255));
        Bench.dueWritten("P2", grey, 1, 1, Bench.file("P2\n2 3\n255\n0 9\n10 99\n100 255\n"));
        Story coloured = Bench.drawn(2, 2, Bench.grey(7), Bench.rgb(1, 20, 255), Bench.grey(7), Bench.grey(8));
        Bench.dueWritten("P6", coloured, 1, 0, Bench.file("P6\n2 2\n255\n", 7, 7, 7, 1, 20, 255, 7, 7, 7, 8, 8, 8));
        Bench.dueWritten("P3", coloured, 1, 1, Bench.file("P3\n2 2\n255\n7 7 7 1 20 255\n7 7 7 8 8 8\n"));
        int[] nearlyGrey = {Bench.rgb(5, 5, 6), Bench.rgb(5, 6, 5), Bench.rgb(6, 5, 5)};
        for (int pixel : nearlyGrey) {
            int[] parts = {pixel >>> 24, pixel >>> 16 & 255, pixel >>> 8 & 255};
            Bench.dueWritten("nearly grey", Bench.drawn(1, 1, pixel), 1, 0, Bench.file("P6\n1 1\n255\n", parts));
            Bench.dueWritten("nearly grey", Bench.drawn(1, 1, pixel), 1, 1,
                    Bench.file("P3\n1 1\n255\n" + parts[0] + " " + parts[1] + " " + parts[2] + "\n"));
        }
        for (int side = 1; side <= 8; side++) {
            Bench.dueWritten("width " + side, Bench.drawn(side, 1), 1, 0,
                    Bench.file("P5\n" + side + " 1\n255\n", new int[side]));
            Bench.dueWritten("height " + side, Bench.drawn(1, side), 1, 0,
                    Bench.file("P5\n1 " + side + "\n255\n", new int[side]));
        }
        int[] many = Bench.filled(64, Bench.rgb(100, 150, 200));
        Bench.dueWritten("the longest file", Bench.drawn(8, 8, many), 1, 1, Bench.longestFile());
    }

    @Holds("for how = 1 in digits, with 32 between those of a row and 10 behind each row.")
    static void writtenInDigits() {
        Bench.dueWritten("one pixel", Bench.drawn(1, 1), 1, 1, Bench.file("P2\n1 1\n255\n0\n"));
        Bench.dueWritten("one row", Bench.drawn(3, 1, Bench.greys(1, 2, 3)), 1, 1, Bench.file("P2\n3 1\n255\n1 2 3\n"));
        Bench.dueWritten("one column", Bench.drawn(1, 3, Bench.greys(1, 2, 3)), 1, 1,
                Bench.file("P2\n1 3\n255\n1\n2\n3\n"));
        Bench.dueWritten("one pixel of three samples", Bench.drawn(1, 2, Bench.rgb(1, 2, 3), Bench.rgb(4, 5, 6)), 1, 1,
                Bench.file("P3\n1 2\n255\n1 2 3\n4 5 6\n"));
        Bench.dueWritten("two rows of three samples", Bench.drawn(2, 2, Bench.rgb(1, 2, 3), Bench.rgb(4, 5, 6)), 1, 1,
                Bench.file("P3\n2 2\n255\n1 2 3 4 5 6\n0 0 0 0 0 0\n"));
    }

    @Holds("Numbers are written without needless zeros.")
    static void writtenWithoutZeros() {
        for (int value = 0; value < 256; value++) {
            Bench.dueWritten("the sample " + value, Bench.drawn(1, 1, Bench.grey(value)), 1, 1,
                    Bench.file("P2\n1 1\n255\n" + value + "\n"));
        }
        Bench.dueWritten("three samples", Bench.drawn(1, 1, Bench.rgb(0, 9, 10)), 1, 1,
                Bench.file("P3\n1 1\n255\n0 9 10\n"));
        Bench.dueWritten("three samples", Bench.drawn(1, 1, Bench.rgb(99, 100, 101)), 1, 1,
                Bench.file("P3\n1 1\n255\n99 100 101\n"));
    }

    @Holds("needless zeros. Refused when the picture is not opaque.")
    static void refused() {
        int[] alphas = {0, 1, 128, 254};
        int[] places = {0, 1, 5};
        for (int how = 0; how < 2; how++) {
            for (int alpha : alphas) {
                for (int place : places) {
                    int[] pixels = Bench.with(Bench.greys(1, 2, 3, 4, 5, 6), place, Bench.rgba(9, 9, 9, alpha));
                    Story story = Bench.drawn(3, 2, pixels).and(x -> x.feed(7)).and(x -> x.feed(8));
                    Bench.dueNotWritten("alpha " + alpha + " at " + place, story, 1, how);
                    int[] samples = Bench.with(Bench.row(1, 2, 3, 4, 5, 6), place, 9);
                    Bench.dueWritten("opaque again", story.and(x -> x.change(4)), 1, 0,
                            Bench.file("P5\n3 2\n255\n", samples));
                }
            }
        }
    }
}
