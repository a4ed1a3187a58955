import java.io.ByteArrayOutputStream;
import java.util.zip.Adler32;

/** Makes images, lays them into objects and takes them out again. */
final class Images {
    private Images() {
    }

    /** The whole image; of a long one that takes more than 512 calls, which the class does not count. */
    static byte[] of(PieceRow x) {
        byte[] image = new byte[x.size(0)];
        long word = 0;
        for (int i = 0; i < image.length; i++) {
            word = i % 8 == 0 ? x.word(i / 8) : word >>> 8;
            image[i] = (byte) word;
        }
        return image;
    }

    /** Puts bytes behind the row, eight a call. */
    static void putAll(PieceRow x, byte[] bytes, int from) {
        for (int i = from; i < bytes.length; i += 8) {
            int n = Math.min(8, bytes.length - i);
            long eight = 0;
            for (int k = 0; k < n; k++) {
                eight |= (bytes[i + k] & 255L) << (8 * k);
            }
            x.put(eight, n);
        }
    }

    /** An object whose row is closed and whose image is this one, of 3 to some 4000 bytes. */
    static PieceRow laid(byte[] image) {
        PieceRow x = new PieceRow();
        x.begin(true);
        putAll(x, image, 2);
        x.close();
        x.patch(0, image[0]);
        x.patch(1, image[1]);
        return x;
    }

    static byte[] piece(int head, byte[] bytes) {
        return joined(new byte[] {(byte) head, (byte) (head >> 8)}, bytes);
    }

    static byte[] packedPiece(byte[] packed) {
        return piece(packed.length, packed);
    }

    static byte[] plainPiece(byte[] bytes) {
        return piece(bytes.length + 32768, bytes);
    }

    static byte[] joined(byte[]... rows) {
        ByteArrayOutputStream all = new ByteArrayOutputStream();
        for (byte[] row : rows) {
            all.writeBytes(row);
        }
        return all.toByteArray();
    }

    /** A packed row: two bytes, the parts, and the check of what they hold. */
    static byte[] packed(int x, int y, byte[] parts, byte[] held) {
        return joined(new byte[] {(byte) x, (byte) y}, parts, check(held));
    }

    static byte[] check(byte[] held) {
        Adler32 adler = new Adler32();
        adler.update(held);
        long v = adler.getValue();
        return new byte[] {(byte) (v >> 24), (byte) (v >> 16), (byte) (v >> 8), (byte) v};
    }
}
