import java.util.Arrays;

/** A small picture, and a file in one of four simple formats that it is written to and read from. */
public final class FourPictureFiles {
    public static final int UNKNOWN = -1;
    public static final int SHORT = -2;
    public static final int BROKEN = -3;

    private static final int LONGEST_SIDE = 8;
    private static final int MOST_PIXELS = 64;
    private static final int MOST_BYTES = 800;
    private static final int FORMATS = 4;

    private final Picture picture = new Picture();
    // Reading fills the draft, so that a file with a fault leaves the picture as it was; turning uses it too.
    private final Picture draft = new Picture();
    private final FileRow file = new FileRow();
    private final Source source = new Source(file);
    private final Format[] formats = new Format[FORMATS];

    public FourPictureFiles() {
        formats[0] = new ChunkFormat();
        formats[1] = new SampleFormat();
        formats[2] = new BitmapFormat();
        formats[3] = new PacketFormat();
    }

    public boolean make(int width, int height) {
        if (!isSide(width) || !isSide(height)) {
            return false;
        }
        picture.begin(width, height);
        return true;
    }

    public boolean put(int x, int y, int pixel) {
        if (!picture.has(x, y)) {
            return false;
        }
        picture.set(x, y, pixel);
        return true;
    }

    public int pixel(int x, int y) {
        return picture.has(x, y) ? picture.at(x, y) : 0;
    }

    public int width() {
        return picture.wide;
    }

    public int height() {
        return picture.high;
    }

    public boolean change(int how) {
        switch (how) {
            case 0:
                picture.exchangeColumns();
                return true;
            case 1:
                picture.exchangeRows();
                return true;
            case 2:
                draft.becomeTurned(picture);
                picture.become(draft);
                return true;
            case 3:
                picture.loseColour();
                return true;
            case 4:
                picture.becomeOpaque();
                return true;
            default:
                return false;
        }
    }

    public boolean feed(int b) {
        return isByte(b) && file.append(b);
    }

    public boolean cut(int n) {
        if (n < 0 || n > file.size) {
            return false;
        }
        file.size = n;
        return true;
    }

    public boolean alter(int i, int b) {
        if (!isByte(b) || i < 0 || i >= file.size) {
            return false;
        }
        file.bytes[i] = b;
        return true;
    }

    public int length() {
        return file.size;
    }

    public int byteAt(int i) {
        return file.at(i);
    }

    public int sniff() {
        for (int i = 0; i < FORMATS; i++) {
            if (formats[i].isThatOf(file)) {
                return i;
            }
        }
        return UNKNOWN;
    }

    public int encode(int format, int how) {
        if (format < 0 || format >= FORMATS || how < 0 || how > 1) {
            return UNKNOWN;
        }
        if (!formats[format].canHold(picture)) {
            return UNKNOWN;
        }
        file.size = 0;
        formats[format].write(picture, how, file);
        return file.size;
    }

    public int decode() {
        int format = sniff();
        if (format == UNKNOWN) {
            return UNKNOWN;
        }
        source.place = 0;
        try {
            formats[format].read(source, draft);
        } catch (IllegalStateException endTooSoon) {
            return SHORT;
        } catch (IllegalArgumentException notAsSaid) {
            return BROKEN;
        }
        picture.become(draft);
        return format;
    }

    private static boolean isSide(int n) {
        return n >= 1 && n <= LONGEST_SIDE;
    }

    private static boolean isByte(int b) {
        return b >= 0 && b <= 255;
    }

    private static int red(int pixel) {
        return pixel >>> 24;
    }

    private static int green(int pixel) {
        return pixel >>> 16 & 255;
    }

    private static int blue(int pixel) {
        return pixel >>> 8 & 255;
    }

    private static int alpha(int pixel) {
        return pixel & 255;
    }

    private static int colour(int red, int green, int blue, int alpha) {
        return red << 24 | green << 16 | blue << 8 | alpha;
    }

    private static int opaque(int red, int green, int blue) {
        return colour(red, green, blue, 255);
    }

    /** Pixels in picture order. */
    private static final class Picture {
        private static final int BLACK = 255;

        private final int[] pixels = new int[MOST_PIXELS];
        private int wide;
        private int high;

        private Picture() {
            wide = 1;
            high = 1;
            pixels[0] = BLACK;
        }

        void begin(int width, int height) {
            wide = width;
            high = height;
            fill(BLACK);
        }

        void fill(int pixel) {
            Arrays.fill(pixels, pixel);
        }

        boolean has(int x, int y) {
            return x >= 0 && x < wide && y >= 0 && y < high;
        }

        int at(int x, int y) {
            return pixels[y * wide + x];
        }

        void set(int x, int y, int pixel) {
            pixels[y * wide + x] = pixel;
        }

        int count() {
            return wide * high;
        }

        void become(Picture other) {
            wide = other.wide;
            high = other.high;
            System.arraycopy(other.pixels, 0, pixels, 0, MOST_PIXELS);
        }

        void becomeTurned(Picture other) {
            begin(other.high, other.wide);
            for (int y = 0; y < high; y++) {
                for (int x = 0; x < wide; x++) {
                    set(x, y, other.at(y, x));
                }
            }
        }

        void exchangeColumns() {
            for (int y = 0; y < high; y++) {
                for (int x = 0; x < wide / 2; x++) {
                    exchange(y * wide + x, y * wide + wide - 1 - x);
                }
            }
        }

        void exchangeRows() {
            for (int y = 0; y < high / 2; y++) {
                for (int x = 0; x < wide; x++) {
                    exchange(y * wide + x, (high - 1 - y) * wide + x);
                }
            }
        }

        private void exchange(int i, int j) {
            int kept = pixels[i];
            pixels[i] = pixels[j];
            pixels[j] = kept;
        }

        void loseColour() {
            for (int i = 0; i < count(); i++) {
                int p = pixels[i];
                int grey = (77 * red(p) + 150 * green(p) + 29 * blue(p)) / 256;
                pixels[i] = colour(grey, grey, grey, alpha(p));
            }
        }

        void becomeOpaque() {
            for (int i = 0; i < count(); i++) {
                pixels[i] = pixels[i] | 255;
            }
        }

        boolean isOpaque() {
            for (int i = 0; i < count(); i++) {
                if (alpha(pixels[i]) != 255) {
                    return false;
                }
            }
            return true;
        }

        boolean isGrey() {
            for (int i = 0; i < count(); i++) {
                int p = pixels[i];
                if (red(p) != green(p) || green(p) != blue(p)) {
                    return false;
                }
            }
            return isOpaque();
        }
    }

    /** The bytes of the file, each 0 .. 255. */
    private static final class FileRow {
        private final int[] bytes = new int[MOST_BYTES];
        private int size;

        int at(int i) {
            return i >= 0 && i < size ? bytes[i] : -1;
        }

        boolean append(int b) {
            if (size >= MOST_BYTES) {
                return false;
            }
            bytes[size] = b;
            size++;
            return true;
        }

        void appendZeros(int n) {
            for (int k = 0; k < n; k++) {
                append(0);
            }
        }

        void appendLittle(int n, int value) {
            for (int k = 0; k < n; k++) {
                append(value >>> 8 * k & 255);
            }
        }

        void appendBig(int n, int value) {
            for (int k = n - 1; k >= 0; k--) {
                append(value >>> 8 * k & 255);
            }
        }

        void appendDigits(int value) {
            if (value >= 100) {
                append('0' + value / 100 % 10);
            }
            if (value >= 10) {
                append('0' + value / 10 % 10);
            }
            append('0' + value % 10);
        }

        void appendBlueGreenRed(int pixel) {
            append(blue(pixel));
            append(green(pixel));
            append(red(pixel));
        }
    }

    /** Reads on through the file; IllegalStateException says SHORT, IllegalArgumentException BROKEN. */
    private static final class Source {
        private final FileRow file;
        private int place;

        private Source(FileRow file) {
            this.file = file;
        }

        int next() {
            if (place >= file.size) {
                throw new IllegalStateException("a byte is missing");
            }
            int b = file.bytes[place];
            place++;
            return b;
        }

        /** The byte that next would answer, -1 at the end. */
        int peek() {
            return place < file.size ? file.bytes[place] : -1;
        }

        boolean isAtEnd() {
            return place >= file.size;
        }

        void need(boolean isAsSaid) {
            if (!isAsSaid) {
                throw new IllegalArgumentException("not as said");
            }
        }

        int needSide(int n) {
            need(isSide(n));
            return n;
        }

        void pass(int n) {
            for (int k = 0; k < n; k++) {
                next();
            }
        }

        int little(int n) {
            int value = 0;
            for (int k = 0; k < n; k++) {
                value |= next() << 8 * k;
            }
            return value;
        }

        int big(int n) {
            int value = 0;
            for (int k = 0; k < n; k++) {
                value = value << 8 | next();
            }
            return value;
        }

        int blueGreenRed() {
            int blue = next();
            int green = next();
            return colour(next(), green, blue, 255);
        }
    }

    /** One of the four formats. */
    private abstract static class Format {
        abstract boolean isThatOf(FileRow file);

        abstract boolean canHold(Picture picture);

        abstract void write(Picture picture, int how, FileRow file);

        /** Leaves by an exception of Source when there is a fault. */
        abstract void read(Source source, Picture draft);
    }

    /** Format 0: chunks, each told by the pixels before it. */
    private static final class ChunkFormat extends Format {
        private static final int PLACES = 64;
        private static final int LONGEST_RUN = 62;
        private static final int RUN = 191;

        private final int[] table = new int[PLACES];
        private int last;

        private void forget() {
            Arrays.fill(table, 0);
            last = opaque(0, 0, 0);
        }

        private static int placeOf(int pixel) {
            return (3 * red(pixel) + 5 * green(pixel) + 7 * blue(pixel) + 11 * alpha(pixel)) % PLACES;
        }

        boolean isThatOf(FileRow file) {
            return file.at(0) == 'q' && file.at(1) == 'o' && file.at(2) == 'i' && file.at(3) == 'f';
        }

        boolean canHold(Picture picture) {
            return true;
        }

        void write(Picture picture, int how, FileRow file) {
            file.append('q');
            file.append('o');
            file.append('i');
            file.append('f');
            file.appendBig(4, picture.wide);
            file.appendBig(4, picture.high);
            file.append(picture.isOpaque() ? 3 : 4);
            file.append(0);
            writeChunks(picture, file);
            file.appendZeros(7);
            file.append(1);
        }

        private void writeChunks(Picture picture, FileRow file) {
            forget();
            int run = 0;
            for (int i = 0; i < picture.count(); i++) {
                int pixel = picture.pixels[i];
                if (pixel == last) {
                    run++;
                }
                if (run == LONGEST_RUN || run > 0 && pixel != last) {
                    file.append(RUN + run);
                    run = 0;
                }
                if (pixel != last) {
                    writeOther(pixel, file);
                    last = pixel;
                }
            }
            if (run > 0) {
                file.append(RUN + run);
            }
        }

        private void writeOther(int pixel, FileRow file) {
            int place = placeOf(pixel);
            if (table[place] == pixel) {
                file.append(place);
                return;
            }
            table[place] = pixel;
            if (alpha(pixel) == alpha(last)) {
                writeColours(pixel, file);
            } else {
                file.append(255);
                file.appendBig(4, pixel);
            }
        }

        private void writeColours(int pixel, FileRow file) {
            int byRed = signed(red(pixel) - red(last));
            int byGreen = signed(green(pixel) - green(last));
            int byBlue = signed(blue(pixel) - blue(last));
            int redLess = signed(byRed - byGreen);
            int blueLess = signed(byBlue - byGreen);
            if (isWithin(byRed, 2) && isWithin(byGreen, 2) && isWithin(byBlue, 2)) {
                file.append(64 + (byRed + 2) * 16 + (byGreen + 2) * 4 + byBlue + 2);
            } else if (isWithin(byGreen, 32) && isWithin(redLess, 8) && isWithin(blueLess, 8)) {
                file.append(160 + byGreen);
                file.append((redLess + 8) * 16 + blueLess + 8);
            } else {
                file.append(254);
                file.appendBig(3, pixel >>> 8);
            }
        }

        /** A difference mod 256, as -128 .. 127. */
        private static int signed(int difference) {
            return (difference + 128 & 255) - 128;
        }

        private static boolean isWithin(int n, int bound) {
            return n >= -bound && n < bound;
        }

        void read(Source source, Picture draft) {
            source.pass(4);
            int wide = source.needSide(source.big(4));
            int high = source.needSide(source.big(4));
            int channels = source.next();
            source.need(channels == 3 || channels == 4);
            source.need(source.next() <= 1);
            draft.begin(wide, high);
            readChunks(source, draft);
            for (int k = 0; k < 7; k++) {
                source.need(source.next() == 0);
            }
            source.need(source.next() == 1);
            source.need(source.isAtEnd());
        }

        private void readChunks(Source source, Picture draft) {
            forget();
            int more = 0;
            int count = draft.count();
            for (int i = 0; i < count; i++) {
                if (more > 0) {
                    more--;
                } else {
                    more = readChunk(source, count - i);
                }
                draft.pixels[i] = last;
            }
        }

        /** Makes the chunk's pixel the last one; answers how many more of it the chunk holds. */
        private int readChunk(Source source, int missing) {
            int c = source.next();
            if (c > RUN && c <= RUN + LONGEST_RUN) {
                source.need(c - RUN <= missing);
                return c - RUN - 1;
            }
            last = chunkPixel(source, c);
            table[placeOf(last)] = last;
            return 0;
        }

        private int chunkPixel(Source source, int c) {
            if (c == 255) {
                return source.big(4);
            }
            if (c == 254) {
                return source.big(3) << 8 | alpha(last);
            }
            if (c < PLACES) {
                return table[c];
            }
            if (c < 128) {
                return lastPlus(c / 16 % 4 - 2, c / 4 % 4 - 2, c % 4 - 2);
            }
            int d = source.next();
            int g = c - 160;
            return lastPlus(g + d / 16 - 8, g, g + d % 16 - 8);
        }

        private int lastPlus(int byRed, int byGreen, int byBlue) {
            return colour(red(last) + byRed & 255, green(last) + byGreen & 255,
                    blue(last) + byBlue & 255, alpha(last));
        }
    }

    /** Format 1: samples, as bytes (P5, P6) or in digits (P2, P3). */
    private static final class SampleFormat extends Format {
        private static final int NEW_LINE = 10;

        private boolean inDigits;
        private int greatest;

        boolean isThatOf(FileRow file) {
            int kind = file.at(1);
            return file.at(0) == 'P' && (kind == '2' || kind == '3' || kind == '5' || kind == '6');
        }

        boolean canHold(Picture picture) {
            return picture.isOpaque();
        }

        void write(Picture picture, int how, FileRow file) {
            boolean coloured = !picture.isGrey();
            file.append('P');
            file.append((how == 0 ? '5' : '2') + (coloured ? 1 : 0));
            file.append(NEW_LINE);
            file.appendDigits(picture.wide);
            file.append(' ');
            file.appendDigits(picture.high);
            file.append(NEW_LINE);
            file.appendDigits(255);
            file.append(NEW_LINE);
            for (int y = 0; y < picture.high; y++) {
                for (int x = 0; x < picture.wide; x++) {
                    int end = x + 1 == picture.wide ? NEW_LINE : ' ';
                    writePixel(picture.at(x, y), coloured, how, end, file);
                }
            }
        }

        private static void writePixel(int pixel, boolean coloured, int how, int end, FileRow file) {
            if (coloured) {
                writeSample(red(pixel), how, ' ', file);
                writeSample(green(pixel), how, ' ', file);
            }
            writeSample(blue(pixel), how, end, file);
        }

        private static void writeSample(int sample, int how, int end, FileRow file) {
            if (how == 0) {
                file.append(sample);
            } else {
                file.appendDigits(sample);
                file.append(end);
            }
        }

        void read(Source source, Picture draft) {
            source.pass(1);
            int kind = source.next();
            inDigits = kind == '2' || kind == '3';
            int wide = source.needSide(number(source));
            int high = source.needSide(number(source));
            greatest = number(source);
            source.need(greatest >= 1 && greatest <= 255);
            if (!inDigits) {
                source.need(isSpace(source.next()));
            }
            draft.begin(wide, high);
            readSamples(source, kind == '3' || kind == '6', draft);
            if (inDigits) {
                passBlanks(source);
            }
            source.need(source.isAtEnd());
        }

        private void readSamples(Source source, boolean coloured, Picture draft) {
            for (int i = 0; i < draft.count(); i++) {
                int red = sample(source);
                int green = coloured ? sample(source) : red;
                int blue = coloured ? sample(source) : red;
                draft.pixels[i] = opaque(red, green, blue);
            }
        }

        private int sample(Source source) {
            int v = inDigits ? number(source) : source.next();
            source.need(v <= greatest);
            return (v * 255 + greatest / 2) / greatest;
        }

        private static int number(Source source) {
            boolean apart = passBlanks(source);
            int first = source.next();
            source.need(apart && isDigit(first));
            int value = first - '0';
            for (int digits = 1; digits < 4 && isDigit(source.peek()); digits++) {
                value = value * 10 + source.next() - '0';
            }
            source.need(!isDigit(source.peek()));
            return value;
        }

        /** Passes over spaces and comments; answers whether there were any. */
        private static boolean passBlanks(Source source) {
            int start = source.place;
            boolean inComment = false;
            for (int k = 0; k < MOST_BYTES; k++) {
                int b = source.peek();
                if (!inComment && b != '#' && !isSpace(b)) {
                    break;
                }
                // At the end of the file only a comment comes here, and that is SHORT.
                source.next();
                inComment = inComment ? b != NEW_LINE : b == '#';
            }
            return source.place > start;
        }

        private static boolean isSpace(int b) {
            return b == 9 || b == NEW_LINE || b == 13 || b == 32;
        }

        private static boolean isDigit(int b) {
            return b >= '0' && b <= '9';
        }
    }

    /** Format 2: rows of colours, or of numbers of colours, plain or packed. */
    private static final class BitmapFormat extends Format {
        private static final int HEADER = 54;
        private static final int LENGTH_PLACE = 2;
        private static final int MOST_COLOURS = 64;

        private final int[] colours = new int[MOST_COLOURS];
        private int known;
        private int depth;
        private int packing;
        private boolean isUpward;
        // Where the next packed pixel goes: its column, and its row counted from the lowest.
        private int column;
        private int up;

        boolean isThatOf(FileRow file) {
            return file.at(0) == 'B' && file.at(1) == 'M';
        }

        boolean canHold(Picture picture) {
            return picture.isOpaque();
        }

        void write(Picture picture, int how, FileRow file) {
            known = 0;
            if (how == 1) {
                gatherColours(picture);
            }
            writeHeader(picture, how, file);
            for (int k = 0; k < known; k++) {
                file.appendBlueGreenRed(colours[k]);
                file.append(0);
            }
            for (int y = picture.high - 1; y >= 0; y--) {
                if (how == 0) {
                    writePlainRow(picture, y, file);
                } else {
                    writePackedRow(picture, y, file);
                }
            }
            writeLength(file);
        }

        private void gatherColours(Picture picture) {
            for (int i = 0; i < picture.count(); i++) {
                int pixel = picture.pixels[i];
                if (numberOf(pixel) == known && known < MOST_COLOURS) {
                    colours[known] = pixel;
                    known++;
                }
            }
        }

        /** The number of the colour; known when it is not among them. */
        private int numberOf(int pixel) {
            for (int k = 0; k < known; k++) {
                if (colours[k] == pixel) {
                    return k;
                }
            }
            return known;
        }

        private void writeHeader(Picture picture, int how, FileRow file) {
            file.append('B');
            file.append('M');
            file.appendZeros(8);
            file.appendLittle(4, HEADER + 4 * known);
            file.appendLittle(4, 40);
            file.appendLittle(4, picture.wide);
            file.appendLittle(4, picture.high);
            file.appendLittle(2, 1);
            file.appendLittle(2, how == 0 ? 24 : 8);
            file.appendLittle(4, how);
            file.appendZeros(12);
            file.appendLittle(4, known);
            file.appendZeros(4);
        }

        // The length is known only when all else stands.
        private static void writeLength(FileRow file) {
            file.bytes[LENGTH_PLACE] = file.size & 255;
            file.bytes[LENGTH_PLACE + 1] = file.size >>> 8;
        }

        private static void writePlainRow(Picture picture, int y, FileRow file) {
            for (int x = 0; x < picture.wide; x++) {
                file.appendBlueGreenRed(picture.at(x, y));
            }
            file.appendZeros(bytesToFour(3 * picture.wide));
        }

        private void writePackedRow(Picture picture, int y, FileRow file) {
            int piece = 0;
            for (int x = 0; x < picture.wide; x++) {
                piece++;
                int pixel = picture.at(x, y);
                if (x + 1 == picture.wide || picture.at(x + 1, y) != pixel) {
                    file.append(piece);
                    file.append(numberOf(pixel));
                    piece = 0;
                }
            }
            file.append(0);
            file.append(y == 0 ? 1 : 0);
        }

        /** How many bytes are missing to a multiple of four. */
        private static int bytesToFour(int n) {
            return -n & 3;
        }

        void read(Source source, Picture draft) {
            source.pass(10);
            int beginning = source.little(4);
            readHeader(source, draft);
            for (int k = 0; k < known; k++) {
                colours[k] = source.blueGreenRed();
                source.pass(1);
            }
            source.need(beginning >= source.place && beginning <= MOST_BYTES);
            source.pass(beginning - source.place);
            if (packing == 1) {
                readPacked(source, draft);
            } else {
                readRows(source, draft);
            }
        }

        private void readHeader(Source source, Picture draft) {
            source.need(source.little(4) == 40);
            int wide = source.needSide(source.little(4));
            int tall = source.little(4);
            isUpward = tall > 0;
            // The lowest int stays below 0 here, and so is no side.
            int high = source.needSide(isUpward ? tall : -tall);
            source.need(source.little(2) == 1);
            depth = source.little(2);
            source.need(depth == 8 || depth == 24);
            packing = source.little(4);
            source.need(packing == 0 || packing == 1 && depth == 8 && isUpward);
            source.pass(12);
            known = source.little(4);
            source.need(depth == 8 ? known >= 1 && known <= MOST_COLOURS : known == 0);
            source.pass(4);
            draft.begin(wide, high);
        }

        private void readRows(Source source, Picture draft) {
            int padding = bytesToFour(draft.wide * depth / 8);
            for (int k = 0; k < draft.high; k++) {
                int y = isUpward ? draft.high - 1 - k : k;
                for (int x = 0; x < draft.wide; x++) {
                    draft.set(x, y, depth == 24 ? source.blueGreenRed() : colourOf(source, source.next()));
                }
                source.pass(padding);
            }
        }

        private int colourOf(Source source, int number) {
            source.need(number < known);
            return colours[number];
        }

        private void readPacked(Source source, Picture draft) {
            draft.fill(colours[0]);
            column = 0;
            up = 0;
            for (int k = 0; k < MOST_BYTES; k++) {
                int n = source.next();
                int c = source.next();
                if (n == 0 && c == 1) {
                    return;
                }
                if (n == 0) {
                    obey(c, source, draft);
                } else {
                    for (int j = 0; j < n; j++) {
                        paint(c, source, draft);
                    }
                }
            }
        }

        private void obey(int c, Source source, Picture draft) {
            if (c == 0) {
                goTo(0, up + 1, source, draft);
            } else if (c == 2) {
                int right = source.next();
                int upward = source.next();
                goTo(column + right, up + upward, source, draft);
            } else {
                for (int j = 0; j < c; j++) {
                    paint(source.next(), source, draft);
                }
                source.pass(c % 2);
            }
        }

        private void goTo(int newColumn, int newUp, Source source, Picture draft) {
            source.need(newColumn <= draft.wide && newUp <= draft.high);
            column = newColumn;
            up = newUp;
        }

        private void paint(int number, Source source, Picture draft) {
            int y = draft.high - 1 - up;
            source.need(draft.has(column, y));
            draft.set(column, y, colourOf(source, number));
            column++;
        }
    }

    /** Format 3: pixels one by one, or in packets. */
    private static final class PacketFormat extends Format {
        private static final int HEADER = 18;

        private int depth;
        // How many pixels the open packet still has, and whether they all are the held one.
        private int left;
        private boolean isRepeated;
        private int held;

        boolean isThatOf(FileRow file) {
            if (file.size < HEADER || file.at(1) != 0) {
                return false;
            }
            int kind = file.at(2);
            int bits = file.at(16);
            if (kind == 2 || kind == 10) {
                return bits == 24 || bits == 32;
            }
            return (kind == 3 || kind == 11) && bits == 8;
        }

        boolean canHold(Picture picture) {
            return true;
        }

        void write(Picture picture, int how, FileRow file) {
            boolean grey = picture.isGrey();
            depth = grey ? 8 : picture.isOpaque() ? 24 : 32;
            file.appendZeros(2);
            file.append((grey ? 3 : 2) + (how == 0 ? 0 : 8));
            file.appendZeros(9);
            file.appendLittle(2, picture.wide);
            file.appendLittle(2, picture.high);
            file.append(depth);
            file.append(32 + alphaBits());
            for (int y = 0; y < picture.high; y++) {
                if (how == 0) {
                    writePixels(picture, y, 0, picture.wide, file);
                } else {
                    writePackets(picture, y, file);
                }
            }
        }

        private int alphaBits() {
            return depth == 32 ? 8 : 0;
        }

        private void writePixels(Picture picture, int y, int from, int to, FileRow file) {
            for (int x = from; x < to; x++) {
                int pixel = picture.at(x, y);
                if (depth == 8) {
                    file.append(red(pixel));
                } else {
                    file.appendBlueGreenRed(pixel);
                }
                if (depth == 32) {
                    file.append(alpha(pixel));
                }
            }
        }

        private void writePackets(Picture picture, int y, FileRow file) {
            int from = 0;
            for (int x = 0; x < picture.wide; x++) {
                boolean repeats = isSameAsNext(picture, from, y);
                if (x + 1 == picture.wide || endsPacket(picture, x, y, repeats)) {
                    int n = x + 1 - from;
                    file.append(repeats ? 127 + n : n - 1);
                    writePixels(picture, y, from, repeats ? from + 1 : x + 1, file);
                    from = x + 1;
                }
            }
        }

        private static boolean endsPacket(Picture picture, int x, int y, boolean repeats) {
            return repeats ? !isSameAsNext(picture, x, y) : isSameAsNext(picture, x + 1, y);
        }

        private static boolean isSameAsNext(Picture picture, int x, int y) {
            return picture.has(x + 1, y) && picture.at(x, y) == picture.at(x + 1, y);
        }

        void read(Source source, Picture draft) {
            int passed = source.next();
            source.pass(1);
            int kind = source.next();
            source.pass(9);
            int wide = source.needSide(source.little(2));
            int high = source.needSide(source.little(2));
            depth = source.next();
            int flags = source.next();
            source.need((flags & 15) == alphaBits() && flags < 64);
            source.pass(passed);
            draft.begin(wide, high);
            isRepeated = false;
            left = kind == 2 || kind == 3 ? draft.count() : 0;
            readPixels(source, flags, draft);
        }

        private void readPixels(Source source, int flags, Picture draft) {
            boolean leftward = (flags & 16) != 0;
            boolean downward = (flags & 32) != 0;
            int missing = draft.count();
            for (int row = 0; row < draft.high; row++) {
                int y = downward ? row : draft.high - 1 - row;
                for (int k = 0; k < draft.wide; k++) {
                    int x = leftward ? draft.wide - 1 - k : k;
                    draft.set(x, y, nextPixel(source, missing));
                    missing--;
                }
            }
        }

        private int nextPixel(Source source, int missing) {
            boolean opens = left == 0;
            if (opens) {
                openPacket(source, missing);
            }
            left--;
            if (opens || !isRepeated) {
                held = readPixel(source);
            }
            return held;
        }

        private void openPacket(Source source, int missing) {
            int p = source.next();
            isRepeated = p > 127;
            left = isRepeated ? p - 127 : p + 1;
            source.need(left <= missing);
        }

        private int readPixel(Source source) {
            if (depth == 8) {
                int grey = source.next();
                return opaque(grey, grey, grey);
            }
            int pixel = source.blueGreenRed();
            // Takes the full alpha away, that a byte of its own stands for here.
            return depth == 32 ? pixel & ~255 | source.next() : pixel;
        }
    }
}
