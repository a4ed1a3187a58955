import java.util.Arrays;
import java.util.Random;
import java.util.zip.DataFormatException;
import java.util.zip.Deflater;
import java.util.zip.Inflater;

/** Promise 11: packed rows of zlib, whole and with bits turned, are read as zlib reads them. */
public final class UnpackFuzzTest {
    private static final Due DUE = new Due();
    private static int held;
    private static int faulty;

    public static void main(String[] args) {
        Random random = new Random(4);
        for (int round = 0; round < 1500; round++) {
            byte[] row = row(random);
            byte[] packed = deflated(random, row);
            if (packed.length > 3800) {
                continue;
            }
            byte[] parts = Arrays.copyOfRange(packed, 2, packed.length - 4);
            compare("round " + round, parts);
            for (int k = 0; k < 20; k++) {
                byte[] turned = parts.clone();
                int near = random.nextBoolean() ? turned.length : Math.min(turned.length, 60);
                for (int bits = 1 + random.nextInt(3); bits > 0; bits--) {
                    turned[random.nextInt(near)] ^= (byte) (1 << random.nextInt(8));
                }
                compare("round " + round + ", turned " + k, turned);
            }
        }
        for (int round = 0; round < 20000; round++) {
            byte[] noise = new byte[1 + random.nextInt(200)];
            random.nextBytes(noise);
            noise[0] = (byte) (noise[0] & ~7 | (random.nextBoolean() ? 5 : 2 + random.nextInt(2)));
            compare("noise " + round, noise);
        }
        System.out.println("held " + held + ", faulty " + faulty);
        DUE.is("both reached", held > 1000 && faulty > 1000 ? 1 : 0, 1);
        DUE.end();
    }

    private static byte[] row(Random random) {
        byte[] row = new byte[1 + random.nextInt(random.nextBoolean() ? 300 : 8192)];
        int letters = 1 + random.nextInt(random.nextBoolean() ? 6 : 256);
        double skew = 1 + 6 * random.nextDouble();
        int i = 0;
        while (i < row.length) {
            if (i > 0 && random.nextInt(30) == 0) {
                int from = random.nextInt(i);
                for (int n = random.nextInt(300); n > 0 && i < row.length; n--) {
                    row[i++] = row[from++];
                }
            } else {
                row[i++] = (byte) (letters * Math.pow(random.nextDouble(), skew));
            }
        }
        return row;
    }

    private static byte[] deflated(Random random, byte[] row) {
        int[] strategies = {Deflater.DEFAULT_STRATEGY, Deflater.FILTERED, Deflater.HUFFMAN_ONLY};
        Deflater deflater = new Deflater(random.nextInt(10));
        deflater.setStrategy(strategies[random.nextInt(3)]);
        byte[] packed = new byte[20000];
        int border = random.nextInt(row.length);
        int n = 0;
        if (random.nextBoolean()) {
            deflater.setInput(row, 0, border);
            n = deflater.deflate(packed, 0, packed.length,
                random.nextBoolean() ? Deflater.SYNC_FLUSH : Deflater.FULL_FLUSH);
        } else {
            border = 0;
        }
        deflater.setInput(row, border, row.length - border);
        deflater.finish();
        while (!deflater.finished()) {
            n += deflater.deflate(packed, n, packed.length - n);
        }
        deflater.end();
        return Arrays.copyOf(packed, n);
    }

    /** Lets zlib read the parts first: it tells where they end, and what the check must be. */
    private static void compare(String what, byte[] parts) {
        Inflater inflater = new Inflater(true);
        inflater.setInput(parts);
        byte[] bytes = new byte[8193];
        int n = -1;
        try {
            n = inflater.inflate(bytes);
        } catch (DataFormatException e) {
            n = -1;
        }
        boolean holds = n >= 1 && n <= 8192 && inflater.finished();
        int used = (int) inflater.getBytesRead();
        inflater.end();
        byte[] due = holds ? Arrays.copyOf(bytes, n) : new byte[] {1};
        byte[] ended = holds ? Arrays.copyOf(parts, used) : parts;
        byte[] packed = Images.packed(120, 156, ended, due);
        Run x = Images.laid(Images.packedPiece(packed));
        DUE.is(what + ": read()", x.read(), holds ? n : -12);
        for (int i = 0; holds && i < n; i += 1 + n / 50) {
            DUE.is(what + ": byteAt(" + i + ")", x.byteAt(i), bytes[i] & 255);
        }
        held += holds ? 1 : 0;
        faulty += holds ? 0 : 1;
    }
}
