import java.util.ArrayList;
import java.util.List;

/** What a row is made of: bytes and stretches, so that a long row takes few calls. */
final class Content {
    private interface Step {
        void on(Run x);
    }

    private final List<Step> steps = new ArrayList<>();
    private byte[] row = {};

    Content bytes(byte... bytes) {
        row = Images.joined(row, bytes);
        steps.add(x -> x.putAll(bytes));
        return this;
    }

    Content values(int... values) {
        return bytes(Images.bytes(values));
    }

    Content text(String text) {
        return values(text.chars().toArray());
    }

    Content fill(int kind, int b, int n) {
        row = Images.joined(row, filled(kind, b, n));
        steps.add(x -> x.fill(kind, b, n));
        return this;
    }

    byte[] row() {
        return row;
    }

    /** A row that is not closed yet. */
    Run open(boolean plain) {
        Run x = new Run();
        x.begin(plain);
        for (Step step : steps) {
            step.on(x);
        }
        return x;
    }

    Run closed(boolean plain) {
        Run x = open(plain);
        x.close();
        return x;
    }

    /** The parts of the row's only piece, which must be one that is packed. */
    List<Part> parts() {
        byte[] image = closed(false).image();
        int head = (image[0] & 255) + 256 * (image[1] & 255);
        if (head != image.length - 2) {
            throw new IllegalStateException("a packed piece alone was to come, but its head is " + head);
        }
        return Part.allOf(image, 2);
    }

    /** The bytes that fill() draws, by the document's words. */
    static byte[] filled(int kind, int b, int n) {
        byte[] bytes = new byte[n];
        long x = b;
        for (int i = 0; i < n; i++) {
            x = (1103515245L * x + 12345) % (1L << 32);
            long drawn = Math.floorMod(x, 1L << 32) / 65536;
            bytes[i] = (byte) (kind == 0 ? b : kind == 1 ? drawn % 256 : 97 + drawn % 4);
        }
        return bytes;
    }
}
