import java.util.ArrayList;
import java.util.Arrays;
import java.util.List;
import java.util.zip.DataFormatException;
import java.util.zip.Inflater;

/** All promises in their plainest form: rows are made anew at each change, and zlib unpacks pieces. */
final class RowModel {
    private byte[] row = {};
    private byte[] image = {};
    private boolean plain;
    private boolean closed;
    private byte[] known = {};
    private List<Integer> starts = new ArrayList<>();

    void begin(boolean isPlain) {
        row = new byte[0];
        image = new byte[0];
        plain = isPlain;
        closed = false;
    }

    int put(long bytes, int n) {
        if (n < 1 || n > 8) {
            return -1;
        }
        byte[] more = new byte[n];
        for (int i = 0; i < n; i++) {
            more[i] = (byte) (bytes >> (8 * i));
        }
        return add(more);
    }

    int fill(int kind, int b, int n) {
        boolean bad = kind < 0 || kind > 2 || n < 1 || n > 65536;
        return bad ? -1 : add(Content.filled(kind, b, n));
    }

    private int add(byte[] more) {
        if (closed) {
            return -1;
        }
        if (row.length + more.length > 65536) {
            return -3;
        }
        int pieces = row.length / 8192;
        row = Images.joined(row, more);
        while (pieces < row.length / 8192) {
            addPiece(8192 * pieces, 8192 * pieces + 8192);
            pieces++;
        }
        return row.length;
    }

    private void addPiece(int from, int to) {
        image = Images.joined(image, Model.image(Arrays.copyOfRange(row, from, to), plain));
    }

    long reference() {
        return closed ? -1 : 65536L * image.length + row.length % 8192;
    }

    int close() {
        if (closed) {
            return -1;
        }
        closed = true;
        if (row.length % 8192 > 0) {
            addPiece(row.length / 8192 * 8192, row.length);
        }
        return (row.length + 8191) / 8192;
    }

    int size(int what) {
        return what == 0 ? image.length : what == 1 ? known.length : what == 2 ? starts.size() : -1;
    }

    long word(int i) {
        long word = 0;
        for (int k = 7; k >= 0; k--) {
            long at = 8L * i + k;
            word = word * 256 + (at >= 0 && at < image.length ? image[(int) at] & 255 : 0);
        }
        return word;
    }

    int patch(int i, int b) {
        if (!closed) {
            return -1;
        }
        if (i < 0 || i >= image.length) {
            return -2;
        }
        int was = image[i] & 255;
        image[i] = (byte) b;
        return was;
    }

    int cut(int n) {
        if (!closed || n < 0 || n > image.length) {
            return -1;
        }
        int went = image.length - n;
        image = Arrays.copyOf(image, n);
        return went;
    }

    int read() {
        if (!closed) {
            return -1;
        }
        known = new byte[0];
        starts = new ArrayList<>();
        List<Integer> heads = heads();
        if (heads == null) {
            return -11;
        }
        byte[] all = {};
        for (int at : heads) {
            byte[] piece = piece(at);
            boolean last = at + 2 + told(at) == image.length;
            if (piece.length < 1 || piece.length > 8192 || !last && piece.length < 8192) {
                return -12;
            }
            all = Images.joined(all, piece);
        }
        if (all.length > 65536) {
            return -12;
        }
        known = all;
        starts = heads;
        return known.length;
    }

    private int told(int at) {
        return (image[at] & 255) + 256 * (image[at + 1] & 127);
    }

    /** Where pieces start, or null with fault 1. */
    private List<Integer> heads() {
        List<Integer> heads = new ArrayList<>();
        int at = 0;
        while (at < image.length) {
            if (at + 1 == image.length) {
                return null;
            }
            int n = told(at);
            if (n < 1 || n > 8192 || at + 2 + n > image.length) {
                return null;
            }
            heads.add(at);
            at += 2 + n;
        }
        return heads;
    }

    /** What a piece holds, or nothing with a fault. */
    private byte[] piece(int at) {
        byte[] bytes = Arrays.copyOfRange(image, at + 2, at + 2 + told(at));
        return (image[at + 1] & 128) != 0 ? bytes : unpacked(bytes);
    }

    private static byte[] unpacked(byte[] packed) {
        // zlib asks for the same first two bytes and the same check
        Inflater inflater = new Inflater();
        inflater.setInput(packed);
        byte[] bytes = new byte[8193];
        try {
            int n = inflater.inflate(bytes);
            boolean whole = inflater.finished() && inflater.getRemaining() == 0;
            return whole ? Arrays.copyOf(bytes, n) : new byte[0];
        } catch (DataFormatException e) {
            return new byte[0];
        } finally {
            inflater.end();
        }
    }

    int byteAt(long reference) {
        int i = starts.indexOf((int) (reference >> 16));
        int at = 8192 * i + (int) (reference & 65535);
        boolean there = reference >> 16 == (int) (reference >> 16) && i >= 0
            && (reference & 65535) < 8192 && at < known.length;
        return there ? known[at] & 255 : -2;
    }

    int start(int i) {
        return i >= 0 && i < starts.size() ? starts.get(i) : -2;
    }
}
