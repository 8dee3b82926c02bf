import java.util.Arrays;

/** Reads a file by the document, as a second program that shares nothing with the first one. */
final class SecondReader {
    /** UNKNOWN, SHORT, BROKEN or the format; a picture only with a format. */
    final int answer;
    int width;
    int height;
    int[] pixels = new int[0];

    private final int[] file;
    private int at = 0;

    /** Ends the reading with an answer. */
    private static final class Fault extends RuntimeException {
        private static final long serialVersionUID = 1;
        private final int answer;

        private Fault(int answer) {
            super(null, null, false, false);
            this.answer = answer;
        }
    }

    SecondReader(int[] file) {
        this.file = file;
        int end = format();
        try {
            switch (end) {
                case 0 -> chunks();
                case 1 -> samples();
                case 2 -> bitmap();
                case 3 -> packets();
                default -> { }
            }
        } catch (Fault fault) {
            end = fault.answer;
        }
        answer = end;
    }

    private boolean begins(String text) {
        boolean same = file.length >= text.length();
        for (int i = 0; same && i < text.length(); i++) {
            same = file[i] == text.charAt(i);
        }
        return same;
    }

    private int format() {
        if (begins("qoif")) {
            return 0;
        }
        if (begins("P2") || begins("P3") || begins("P5") || begins("P6")) {
            return 1;
        }
        if (begins("BM")) {
            return 2;
        }
        String kind = file.length < 18 || file[1] != 0 ? "" : file[2] + " " + file[16];
        return "2 24, 2 32, 10 24, 10 32, 3 8, 11 8".matches("(.*, )?" + kind + "(, .*)?") && !kind.isEmpty() ? 3 : -1;
    }

    private int take() {
        if (at == file.length) {
            throw new Fault(-2);
        }
        return file[at++];
    }

    private int[] take(int n) {
        int[] bytes = new int[n];
        for (int i = 0; i < n; i++) {
            bytes[i] = take();
        }
        return bytes;
    }

    private long number(int n, boolean lowestFirst) {
        int[] bytes = take(n);
        long value = 0;
        for (int i = 0; i < n; i++) {
            value = value * 256 + bytes[lowestFirst ? n - 1 - i : i];
        }
        return value;
    }

    private static void check(boolean right) {
        if (!right) {
            throw new Fault(-3);
        }
    }

    private static int side(long n) {
        check(1 <= n && n <= 8);
        return (int) n;
    }

    private static int pixel(int red, int green, int blue, int alpha) {
        return Bench.rgba(Math.floorMod(red, 256), Math.floorMod(green, 256), Math.floorMod(blue, 256), alpha);
    }

    private void chunks() {
        take(4);
        width = side(number(4, false));
        height = side(number(4, false));
        int channels = take();
        check(channels == 3 || channels == 4);
        int space = take();
        check(space == 0 || space == 1);
        pixels = new int[width * height];
        int[][] table = new int[64][4];
        int[] last = {0, 0, 0, 255};
        int done = 0;
        while (done < pixels.length) {
            int c = take();
            int times = 1;
            if (c >= 192 && c <= 253) {
                times = c - 191;
                check(times <= pixels.length - done);
            } else {
                last = chunk(c, last, table);
                table[(3 * last[0] + 5 * last[1] + 7 * last[2] + 11 * last[3]) % 64] = last;
            }
            Arrays.fill(pixels, done, done + times, pixel(last[0], last[1], last[2], last[3]));
            done += times;
        }
        for (int i = 0; i < 8; i++) {
            check(take() == i / 7);
        }
        check(at == file.length);
    }

    private int[] chunk(int c, int[] last, int[][] table) {
        if (c == 255) {
            return take(4);
        }
        if (c == 254) {
            int[] rgb = take(3);
            return new int[] {rgb[0], rgb[1], rgb[2], last[3]};
        }
        if (c <= 63) {
            return table[c];
        }
        int red = c / 16 % 4 - 2;
        int green = c / 4 % 4 - 2;
        int blue = c % 4 - 2;
        if (c >= 128) {
            int d = take();
            green = c - 160;
            red = green + d / 16 - 8;
            blue = green + d % 16 - 8;
        }
        return new int[] {(last[0] + red + 256) % 256, (last[1] + green + 256) % 256, (last[2] + blue + 256) % 256,
                last[3]};
    }

    private boolean stands(String set) {
        return at < file.length && set.indexOf(file[at]) >= 0;
    }

    private int passBlanks() {
        int from = at;
        while (stands("\t\n\r #")) {
            if (take() == '#') {
                while (take() != '\n') {
                    continue;
                }
            }
        }
        return at - from;
    }

    private int digits() {
        int blanks = passBlanks();
        if (at == file.length) {
            throw new Fault(-2);
        }
        check(blanks > 0 && stands("0123456789"));
        String text = "";
        while (stands("0123456789")) {
            text += (char) take();
            check(text.length() <= 4);
        }
        return Integer.parseInt(text);
    }

    private void samples() {
        int kind = take(2)[1];
        boolean inDigits = kind < '4';
        width = side(digits());
        height = side(digits());
        int greatest = digits();
        check(greatest >= 1 && greatest <= 255);
        if (!inDigits) {
            int space = take();
            check("\t\n\r ".indexOf(space) >= 0);
        }
        int each = kind == '2' || kind == '5' ? 1 : 3;
        int[] values = new int[width * height * each];
        for (int i = 0; i < values.length; i++) {
            int v = inDigits ? digits() : take();
            check(v <= greatest);
            values[i] = (v * 255 + greatest / 2) / greatest;
        }
        if (inDigits) {
            passBlanks();
        }
        check(at == file.length);
        pixels = new int[width * height];
        for (int i = 0; i < pixels.length; i++) {
            pixels[i] = pixel(values[i * each], values[i * each + each / 2], values[i * each + each - 1], 255);
        }
    }

    private int threeBytes() {
        int[] bytes = take(3);
        return pixel(bytes[2], bytes[1], bytes[0], 255);
    }

    private void bitmap() {
        take(10);
        int beginning = (int) number(4, true);
        check(number(4, true) == 40);
        width = side(number(4, true));
        int signed = (int) number(4, true);
        height = side(Math.abs((long) signed));
        check(number(2, true) == 1);
        long depth = number(2, true);
        check(depth == 8 || depth == 24);
        long packing = number(4, true);
        check(packing == 0 || packing == 1 && depth == 8 && signed > 0);
        take(12);
        long count = number(4, true);
        check(depth == 24 ? count == 0 : count >= 1 && count <= 64);
        take(4);
        int[] colours = new int[(int) count];
        for (int i = 0; i < count; i++) {
            colours[i] = threeBytes();
            take();
        }
        check(beginning >= at && beginning <= 800);
        take(beginning - at);
        pixels = new int[width * height];
        if (packing == 1) {
            packedRows(colours);
            return;
        }
        for (int row = 0; row < height; row++) {
            int y = signed > 0 ? height - 1 - row : row;
            int from = at;
            for (int x = 0; x < width; x++) {
                pixels[y * width + x] = depth == 24 ? threeBytes() : colour(take(), colours);
            }
            while ((at - from) % 4 != 0) {
                take();
            }
        }
    }

    private static int colour(int number, int[] colours) {
        check(number < colours.length);
        return colours[number];
    }

    private void packedRows(int[] colours) {
        Arrays.fill(pixels, colours[0]);
        int x = 0;
        int up = 0;
        while (true) {
            int[] pair = take(2);
            int n = pair[0];
            int c = pair[1];
            if (n == 0 && c == 1) {
                return;
            }
            if (n == 0 && c == 0) {
                x = 0;
                up++;
            } else if (n == 0 && c == 2) {
                int[] move = take(2);
                x += move[0];
                up += move[1];
            } else {
                for (int i = 0; i < (n == 0 ? c : n); i++) {
                    int number = n == 0 ? take() : c;
                    check(x < width && up < height);
                    pixels[(height - 1 - up) * width + x] = colour(number, colours);
                    x++;
                }
                take(n == 0 ? c % 2 : 0);
            }
            check(x <= width && up <= height);
        }
    }

    private void packets() {
        int[] head = take(12);
        width = side(number(2, true));
        height = side(number(2, true));
        int depth = take();
        int flags = take();
        check(flags % 16 == (depth == 32 ? 8 : 0) && flags < 64);
        take(head[0]);
        int[] row = new int[width * height];
        int done = 0;
        while (done < row.length) {
            int p = head[2] < 10 ? 0 : take();
            int times = p > 127 ? p - 127 : p + 1;
            check(times <= row.length - done);
            for (int i = 0; i < times; i++) {
                row[done + i] = p > 127 && i > 0 ? row[done] : packetPixel(depth);
            }
            done += times;
        }
        pixels = new int[row.length];
        for (int i = 0; i < row.length; i++) {
            int x = flags / 16 % 2 == 1 ? width - 1 - i % width : i % width;
            int y = flags / 32 == 1 ? i / width : height - 1 - i / width;
            pixels[y * width + x] = row[i];
        }
    }

    private int packetPixel(int depth) {
        int[] bytes = take(depth / 8);
        int alpha = depth == 32 ? bytes[3] : 255;
        return depth == 8 ? Bench.grey(bytes[0]) : pixel(bytes[2], bytes[1], bytes[0], alpha);
    }
}
