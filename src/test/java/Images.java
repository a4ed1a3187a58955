import java.io.ByteArrayOutputStream;
import java.util.Arrays;

/** Makes images and packed rows, and lays them into objects. */
final class Images {
    private Images() {
    }

    /** A run whose row is closed and whose image is this one, of 3 to some 3900 bytes. */
    static Run laid(byte[] image) {
        Run x = new Run();
        x.begin(true);
        x.putAll(image, 2);
        x.close();
        x.patch(0, image[0]);
        x.patch(1, image[1]);
        return x;
    }

    static byte[] piece(int head, byte[] bytes) {
        return joined(bytes(head, head >> 8), bytes);
    }

    static byte[] packedPiece(byte[] packed) {
        return piece(packed.length, packed);
    }

    static byte[] plainPiece(byte[] bytes) {
        return piece(bytes.length + 32768, bytes);
    }

    static byte[] bytes(int... values) {
        byte[] bytes = new byte[values.length];
        for (int i = 0; i < values.length; i++) {
            bytes[i] = (byte) values[i];
        }
        return bytes;
    }

    static byte[] many(int b, int n) {
        byte[] bytes = new byte[n];
        Arrays.fill(bytes, (byte) b);
        return bytes;
    }

    static byte[] joined(byte[]... rows) {
        ByteArrayOutputStream all = new ByteArrayOutputStream();
        for (byte[] row : rows) {
            all.writeBytes(row);
        }
        return all.toByteArray();
    }

    /** A packed row: two bytes, the parts, and the check of what they hold. */
    static byte[] packed(int x, int y, byte[] parts, byte[] held) {
        return joined(bytes(x, y), parts, check(held));
    }

    /** Both sums whole, and the modulo at the end alone. */
    static byte[] check(byte[] held) {
        long a = 1;
        long b = 0;
        for (byte one : held) {
            a += one & 255;
            b += a;
        }
        int check = (int) (65536 * (b % 65521) + a % 65521);
        return bytes(check >> 24, check >> 16, check >> 8, check);
    }
}
