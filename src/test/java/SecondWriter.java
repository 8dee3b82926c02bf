import java.util.ArrayList;
import java.util.Arrays;
import java.util.List;

/** Writes a picture by the document, as a second program that shares nothing with the first one. */
final class SecondWriter {
    private final int width;
    private final int height;
    private final int[] pixels;
    private final boolean opaque;
    private final boolean grey;
    private int[] file = new int[0];

    private SecondWriter(int width, int height, int[] pixels) {
        this.width = width;
        this.height = height;
        this.pixels = pixels;
        opaque = Arrays.stream(pixels).allMatch(p -> part(p, 3) == 255);
        grey = opaque && Arrays.stream(pixels).allMatch(p -> part(p, 0) == part(p, 1) && part(p, 1) == part(p, 2));
    }

    /** The file; none when writing is refused. */
    static int[] write(int width, int height, int[] pixels, int format, int how) {
        SecondWriter writer = new SecondWriter(width, height, pixels);
        switch (format) {
            case 0 -> writer.chunks();
            case 1 -> writer.samples(how);
            case 2 -> writer.bitmap(how);
            default -> writer.packets(how);
        }
        return writer.file;
    }

    /** R, G, B or A. */
    private static int part(int pixel, int k) {
        return pixel >>> 24 - 8 * k & 255;
    }

    private void add(Object... parts) {
        file = Bench.file(file, Bench.file(parts));
    }

    private void chunks() {
        add("qoif", Bench.big(width), Bench.big(height), opaque ? 3 : 4, 0);
        int[] table = new int[64];
        int last = 255;
        int count = 0;
        for (int i = 0; i < pixels.length; i++) {
            int pixel = pixels[i];
            if (pixel == last) {
                count++;
                boolean goesOn = i + 1 < pixels.length && pixels[i + 1] == last;
                if (count == 62 || !goesOn) {
                    add(191 + count);
                    count = 0;
                }
                continue;
            }
            int place = (3 * part(pixel, 0) + 5 * part(pixel, 1) + 7 * part(pixel, 2) + 11 * part(pixel, 3)) % 64;
            if (table[place] == pixel) {
                add(place);
            } else {
                table[place] = pixel;
                chunk(pixel, last);
            }
            last = pixel;
        }
        add(new int[7], 1);
    }

    private void chunk(int pixel, int last) {
        int red = (byte) (part(pixel, 0) - part(last, 0));
        int green = (byte) (part(pixel, 1) - part(last, 1));
        int blue = (byte) (part(pixel, 2) - part(last, 2));
        int redMore = (byte) (red - green) + 8;
        int blueMore = (byte) (blue - green) + 8;
        if (part(pixel, 3) != part(last, 3)) {
            add(255, Bench.big(pixel));
        } else if (Math.max(red, Math.max(green, blue)) <= 1 && Math.min(red, Math.min(green, blue)) >= -2) {
            add(64 + (red + 2) * 16 + (green + 2) * 4 + (blue + 2));
        } else if ((green + 32) / 64 == 0 && green >= -32 && (redMore | blueMore) >>> 4 == 0) {
            add(160 + green, redMore * 16 + blueMore);
        } else {
            add(254, part(pixel, 0), part(pixel, 1), part(pixel, 2));
        }
    }

    private void samples(int how) {
        if (!opaque) {
            return;
        }
        add("P" + (how == 0 ? grey ? 5 : 6 : grey ? 2 : 3) + "\n" + width + " " + height + "\n255\n");
        for (int y = 0; y < height; y++) {
            List<String> row = new ArrayList<>();
            for (int x = 0; x < width; x++) {
                for (int k = 0; k < (grey ? 1 : 3); k++) {
                    int sample = part(pixels[y * width + x], k);
                    row.add("" + sample);
                    add(how == 0 ? Bench.row(sample) : new int[0]);
                }
            }
            add(how == 1 ? String.join(" ", row) + "\n" : "");
        }
    }

    private static int[] backward(int pixel) {
        return Bench.row(part(pixel, 2), part(pixel, 1), part(pixel, 0));
    }

    private void bitmap(int how) {
        if (!opaque) {
            return;
        }
        List<Integer> colours = new ArrayList<>();
        if (how == 1) {
            Arrays.stream(pixels).distinct().forEach(colours::add);
        }
        add("BM", new int[8], Bench.little(54 + 4 * colours.size()), Bench.little(40), Bench.little(width),
                Bench.little(height), 1, 0, how == 0 ? 24 : 8, 0, Bench.little(how), new int[12],
                Bench.little(colours.size()), new int[4]);
        for (int colour : colours) {
            add(backward(colour), 0);
        }
        for (int y = height - 1; y >= 0; y--) {
            int[] row = Arrays.copyOfRange(pixels, y * width, (y + 1) * width);
            if (how == 0) {
                wholeRow(row);
            } else {
                packedRow(row, colours);
                add(0, y == 0 ? 1 : 0);
            }
        }
        file = Bench.with(file, 2, Bench.little(file.length));
    }

    private void wholeRow(int[] row) {
        for (int pixel : row) {
            add(backward(pixel));
        }
        add(new int[(4 - 3 * row.length % 4) % 4]);
    }

    private void packedRow(int[] row, List<Integer> colours) {
        int x = 0;
        while (x < row.length) {
            int n = same(row, x);
            add(n, colours.indexOf(row[x]));
            x += n;
        }
    }

    /** How many pixels from this one on are the same as it. */
    private static int same(int[] row, int x) {
        int n = 1;
        while (x + n < row.length && row[x + n] == row[x]) {
            n++;
        }
        return n;
    }

    private void packets(int how) {
        int depth = grey ? 8 : opaque ? 24 : 32;
        add(0, 0, (grey ? 3 : 2) + 8 * how, new int[9], width, 0, height, 0, depth, depth == 32 ? 40 : 32);
        for (int y = 0; y < height; y++) {
            int[] row = Arrays.copyOfRange(pixels, y * width, (y + 1) * width);
            int x = 0;
            while (x < width) {
                int n = how == 0 ? 1 : same(row, x);
                int others = 0;
                while (x + others < width && same(row, x + others) == 1) {
                    others++;
                }
                int end = n > 1 ? x + n : how == 0 ? x + 1 : x + others;
                add(how == 0 ? new int[0] : Bench.row(n > 1 ? 127 + n : others - 1));
                for (int k = x; k < (n > 1 ? x + 1 : end); k++) {
                    packetPixel(row[k], depth);
                }
                x = end;
            }
        }
    }

    private void packetPixel(int pixel, int depth) {
        int[] bytes = Bench.file(backward(pixel), part(pixel, 3));
        add(Arrays.copyOf(bytes, depth / 8));
    }
}
