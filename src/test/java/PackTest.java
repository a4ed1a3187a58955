import java.util.Arrays;
import java.util.Random;
import java.util.zip.DataFormatException;
import java.util.zip.Inflater;

/** Promises 3, 4, 5, 6, 8: what is put becomes the image that the document's words make of it. */
public final class PackTest {
    private static final Due DUE = new Due();

    public static void main(String[] args) throws DataFormatException {
        shortRows();
        fills();
        rowsOfPuts();
        mixes();
        nearTies();
        DUE.is("sorts that were reached", Model.chosen[0] > 0 && Model.chosen[1] > 0
            && Model.chosen[2] > 0 ? 1 : 0, 1);
        DUE.is("rows at which the limit 7 told were reached", Model.limited > 0 ? 1 : 0, 1);
        DUE.is("ties of stored that were reached", Model.ties[0] > 10 ? 1 : 0, 1);
        DUE.is("ties of fixed that were reached", Model.ties[1] > 10 ? 1 : 0, 1);
        System.out.println("parts stored, fixed, made: " + Arrays.toString(Model.chosen)
            + ", ties: " + Arrays.toString(Model.ties) + ", limited: " + Model.limited);
        DUE.end();
    }

    private static void shortRows() throws DataFormatException {
        Random random = new Random(1);
        for (int n = 1; n <= 200; n++) {
            for (int letters : new int[] {1, 2, 3, 5, 30, 256}) {
                byte[] row = new byte[n];
                for (int i = 0; i < n; i++) {
                    row[i] = (byte) (random.nextInt(letters) * 37 + 100);
                }
                Run x = new Run();
                x.putAll(row);
                same("short row of " + n + " bytes, " + letters + " letters", x, row, false);
            }
        }
    }

    private static void fills() throws DataFormatException {
        int[] sizes = {
            1, 2, 3, 4, 10, 20, 100, 257, 258, 259, 260, 261, 517, 600, 1000, 4093, 4094, 4095, 4096,
            4097, 4098, 4099, 4100, 4353, 4354, 4355, 5000, 8190, 8191, 8192, 8193, 8195, 9000, 12288,
            16384, 16385, 30000
        };
        for (int kind = 0; kind < 3; kind++) {
            for (int n : sizes) {
                for (int b : new int[] {0, 65, -1, 143 + 256, 144, 123456789, Integer.MIN_VALUE}) {
                    Run x = new Run();
                    byte[] row = Content.filled(kind, b, n);
                    String call = "fill(" + kind + ", " + b + ", " + n + ")";
                    DUE.is(call, x.fill(kind, b, n), n);
                    same(call, x, row, false);
                    x.begin(true);
                    DUE.is("plain " + call, x.fill(kind, b, n), n);
                    same("plain " + call, x, row, true);
                }
            }
        }
    }

    /** Rows such as metadata have, with letters of uneven counts and stretches that come again. */
    private static void rowsOfPuts() throws DataFormatException {
        Random random = new Random(2);
        for (int round = 0; round < 400; round++) {
            byte[] row = new byte[1 + random.nextInt(3900)];
            double skew = 1 + 12 * random.nextDouble();
            int letters = 1 + random.nextInt(256);
            int again = random.nextInt(100);
            int i = 0;
            while (i < row.length) {
                if (i > 0 && random.nextInt(400) < again) {
                    int from = random.nextInt(i);
                    int n = 1 + random.nextInt(random.nextBoolean() ? 10 : 400);
                    for (int k = 0; k < n && i < row.length; k++) {
                        row[i++] = row[from + k];
                    }
                } else {
                    row[i++] = (byte) (letters * Math.pow(random.nextDouble(), skew));
                }
            }
            Run x = new Run();
            x.putAll(row);
            same("row of puts, round " + round, x, row, false);
        }
    }

    /** Many fills, some puts between, over several pieces. */
    private static void mixes() throws DataFormatException {
        Random random = new Random(3);
        for (int round = 0; round < 300; round++) {
            Run x = new Run();
            byte[] row = new byte[0];
            int calls = 1 + random.nextInt(random.nextBoolean() ? 20 : 300);
            int most = random.nextBoolean() ? 40 : 800;
            int seeds = 1 + random.nextInt(20);
            for (int k = 0; k < calls && row.length < 20000; k++) {
                if (random.nextInt(4) == 0) {
                    long bytes = random.nextLong() & random.nextLong();
                    int n = 1 + random.nextInt(8);
                    byte[] more = new byte[n];
                    for (int i = 0; i < n; i++) {
                        more[i] = (byte) (bytes >> (8 * i));
                    }
                    row = Images.joined(row, more);
                    DUE.is("put(" + bytes + ", " + n + ")", x.put(bytes, n), row.length);
                } else {
                    int kind = random.nextInt(3);
                    int b = random.nextInt(seeds);
                    int n = 1 + random.nextInt(most);
                    row = Images.joined(row, Content.filled(kind, b, n));
                    DUE.is("fill(" + kind + ", " + b + ", " + n + ")", x.fill(kind, b, n), row.length);
                }
            }
            same("mix, round " + round, x, row, false);
        }
    }

    /**
     * A first part that packs well and ends at any bit, and a short second one that takes about as
     * many bits in each sort.
     */
    private static void nearTies() throws DataFormatException {
        Random random = new Random(5);
        for (int round = 0; round < 3000; round++) {
            byte[] first = new byte[1 + random.nextInt(40)];
            random.nextBytes(first);
            byte[] second = new byte[1 + random.nextInt(90)];
            random.nextBytes(second);
            int letters = 1 + random.nextInt(256);
            int high = random.nextInt(112);
            for (int i = 0; i < second.length; i++) {
                int low = (second[i] & 255) % letters;
                second[i] = (byte) (random.nextInt(100) < high ? low | 192 : low);
            }
            for (int again = random.nextInt(4); again > 0 && second.length > 12; again--) {
                int n = 3 + random.nextInt(9);
                int from = random.nextInt(first.length);
                int to = random.nextInt(second.length - n);
                System.arraycopy(first, from, second, to, Math.min(n, first.length - from));
            }
            byte[] row = Images.joined(new byte[4096 - first.length], first, second);
            Run x = new Run();
            if (random.nextInt(3) == 0) {
                Arrays.fill(row, 0, 3000, (byte) 77);
                x.fill(0, 77, 3000);
                x.fill(0, 0, 1096 - first.length);
            } else {
                x.fill(0, 0, 4096 - first.length);
            }
            x.putAll(first);
            x.putAll(second);
            same("near a tie, round " + round, x, row, false);
        }
    }

    /** Closes the row, compares its image with the model's and with zlib, and reads it back. */
    private static void same(String what, Run x, byte[] row, boolean plain)
        throws DataFormatException {
        int full = row.length / 8192;
        byte[] closedSoFar = Model.image(Arrays.copyOf(row, full * 8192), plain);
        DUE.is(what + ": reference()", x.reference(), 65536L * closedSoFar.length + row.length % 8192);
        DUE.is(what + ": size(0) before close()", x.size(0), closedSoFar.length);
        DUE.is(what + ": close()", x.close(), (row.length + 8191) / 8192);
        byte[] image = x.image();
        byte[] want = Model.image(row, plain);
        DUE.is(what + ": image is not the model's from", Arrays.mismatch(image, want), -1);
        DUE.is(what + ": zlib's bytes differ from", Arrays.mismatch(unpacked(image), row), -1);
        DUE.is(what + ": read()", x.read(), row.length);
        int at = 0;
        for (int i = 0; i < (row.length + 8191) / 8192; i++) {
            DUE.is(what + ": start(" + i + ")", x.start(i), at);
            for (int k = 0; k < 8192 && 8192 * i + k < row.length; k += 1 + row.length / 100) {
                DUE.is(what + ": byteAt", x.byteAt(65536L * at + k), row[8192 * i + k] & 255);
            }
            at += 2 + ((image[at] & 255) + 256 * (image[at + 1] & 127));
        }
    }

    private static byte[] unpacked(byte[] image) throws DataFormatException {
        byte[] row = new byte[0];
        int at = 0;
        while (at < image.length) {
            int head = (image[at] & 255) + 256 * (image[at + 1] & 255);
            int n = head % 32768;
            byte[] bytes = Arrays.copyOfRange(image, at + 2, at + 2 + n);
            row = Images.joined(row, head >= 32768 ? bytes : inflated(bytes));
            at += 2 + n;
        }
        return row;
    }

    private static byte[] inflated(byte[] packed) throws DataFormatException {
        Inflater inflater = new Inflater();
        inflater.setInput(packed);
        byte[] bytes = new byte[8193];
        int n = inflater.inflate(bytes);
        DUE.is("zlib: the row has an end", inflater.finished() ? 1 : 0, 1);
        DUE.is("zlib: bytes left", inflater.getRemaining(), 0);
        inflater.end();
        return Arrays.copyOf(bytes, n);
    }
}
