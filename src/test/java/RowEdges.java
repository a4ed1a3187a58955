import java.util.Arrays;
import java.util.Random;
import java.util.function.Consumer;

/** The row, its pieces and references, and promises 1 to 6. */
final class RowEdges {
    private static final int BAD = -1;
    private static final int NONE = -2;
    private static final int FULL = -3;
    private static final int LEAST = Integer.MIN_VALUE;
    private static final int MOST = Integer.MAX_VALUE;
    private static final String PUT_REFUSED =
        "BAD: n is not 1 .. 8, or the row is closed; FULL, changing nothing.";
    private static final String FILL_REFUSED =
        "BAD: kind is none of these, n not 1 .. 65536, or the row is closed; FULL, changing nothing.";

    private final Due due;

    private RowEdges(Due due) {
        this.due = due;
    }

    static void all(Due due) {
        RowEdges edges = new RowEdges(due);
        edges.use();
        edges.rowLimit();
        edges.pieces();
        edges.closedWhenFull();
        edges.heads();
        edges.asItIs();
        edges.shorter();
        edges.plain();
        edges.image();
        edges.starts();
        edges.references();
        edges.newObject();
        edges.begin();
        edges.beginKeepsWhatWasRead();
        edges.put();
        edges.putBad();
        edges.putClosed();
        edges.putFull();
        edges.fill();
        edges.fillBad();
        edges.fillClosed();
        edges.fillFull();
        edges.reference();
        edges.referenceClosed();
        edges.close();
        edges.closeClosed();
    }

    static Run plainRow() {
        Run x = new Run();
        x.begin(true);
        return x;
    }

    /** Whatever a refused call answers, all that can be told behind it is as if it had not been called. */
    static void changesNothing(Due due, String call, Content content, boolean closed, Consumer<Run> refused) {
        Run x = closed ? content.closed(false) : content.open(false);
        Run twin = closed ? content.closed(false) : content.open(false);
        refused.accept(x);
        due.is(call + ", then reference()", x.reference(), twin.reference());
        due.is(call + ", then size(0)", x.size(0), twin.size(0));
        due.is(call + ", then put", x.put(0x99, 1), twin.put(0x99, 1));
        due.is(call + ", then close()", x.close(), twin.close());
        due.is(call + ", then the image is another one from",
            Arrays.mismatch(x.image(), twin.image()), -1);
        due.is(call + ", then read()", x.read(), twin.read());
        for (int i = 0; i < 9; i++) {
            due.is(call + ", then start(" + i + ")", x.start(i), twin.start(i));
        }
    }

    private void use() {
        due.by("An object is used for at most 512 calls after it has been made; what later calls answer is free.");
        PieceRow x = new PieceRow();
        for (int i = 1; i <= 508; i++) {
            due.is("call " + i, x.put(0x0102030405060708L * i, 8), 8 * i);
        }
        due.is("call 509", x.close(), 1);
        due.is("call 510", x.size(1), 0);
        due.is("call 511", x.read(), 4064);
        due.is("call 512", x.byteAt(4056), (8 * 508) & 255);
    }

    private void rowLimit() {
        due.by("THE ROW gets up to 65536 bytes, at first none.");
        for (boolean plain : new boolean[] {false, true}) {
            Run x = new Run();
            x.begin(plain);
            due.is("close() of none", x.close(), 0);
            due.is("size(0)", x.size(0), 0);
            x.begin(plain);
            due.is("fill up", x.fill(1, 3, 65536), 65536);
            due.is("one more", x.put(1, 1), FULL);
            due.is("close()", x.close(), 8);
            due.is("read()", x.read(), 65536);
            x.begin(plain);
            due.is("fill", x.fill(2, 3, 65535), 65535);
            due.is("two more", x.put(1, 2), FULL);
            due.is("one more", x.put(1, 1), 65536);
            due.is("close()", x.close(), 8);
            due.is("read()", x.read(), 65536);
        }
    }

    private void pieces() {
        due.by("It is cut in PIECES of 8192 bytes, the last one of what is left;");
        int[] sizes = {1, 8191, 8192, 8193, 16383, 16384, 16385, 57344, 57345, 65535, 65536};
        int[] pieces = {1, 1, 1, 2, 2, 2, 3, 7, 8, 8, 8};
        for (int i = 0; i < sizes.length; i++) {
            Run x = plainRow();
            x.fill(1, 9, sizes[i]);
            due.is("close() of " + sizes[i], x.close(), pieces[i]);
            due.is("size(0)", x.size(0), sizes[i] + 2 * pieces[i]);
            due.is("read()", x.read(), sizes[i]);
            due.is("size(2)", x.size(2), pieces[i]);
            long lastStart = 8194L * (pieces[i] - 1);
            int left = sizes[i] - 8192 * (pieces[i] - 1);
            byte[] row = Content.filled(1, 9, sizes[i]);
            due.is("the last byte", x.byteAt(65536 * lastStart + left - 1), row[sizes[i] - 1] & 255);
            due.is("none behind it", x.byteAt(65536 * lastStart + left), NONE);
        }
    }

    private void closedWhenFull() {
        due.by("a piece is CLOSED as soon as it is full, the last one by close():");
        Run x = plainRow();
        x.fill(0, 7, 8191);
        due.is("size(0) with 8191", x.size(0), 0);
        due.is("word(0) with 8191", x.word(0), 0);
        x.put(7, 1);
        due.is("size(0) with 8192", x.size(0), 8194);
        due.is("word(0) with 8192", x.word(0), 0x070707070707a000L);
        x.fill(0, 7, 8191);
        due.is("size(0) with 16383", x.size(0), 8194);
        x.put(0x0707, 2);
        due.is("size(0) with 16385", x.size(0), 2 * 8194);
        due.is("close()", x.close(), 3);
        due.is("size(0), closed", x.size(0), 2 * 8194 + 3);
        x = plainRow();
        x.fill(0, 7, 8190);
        due.is("put over a border", x.put(0x0807060504030201L, 8), 8198);
        due.is("a piece is closed within the call", x.size(0), 8194);
        due.is("its last bytes", x.word(1024), 0x0201);
        x.close();
        due.is("the next ones", x.word(1024), 0x0605040380060201L);
        x = plainRow();
        due.is("fill over seven borders", x.fill(1, 7, 65535), 65535);
        due.is("size(0)", x.size(0), 7 * 8194);
        x.put(1, 1);
        due.is("size(0) of the full row, not closed", x.size(0), 8 * 8194);
        due.is("close()", x.close(), 8);
        due.is("size(0)", x.size(0), 8 * 8194);
    }

    private void heads() {
        due.by("a u2, its HEAD (the lower byte first), how many bytes follow, 1 to 8192,");
        int[] sizes = {1, 2, 255, 256, 257, 8191, 8192};
        for (int n : sizes) {
            Run x = plainRow();
            x.fill(0, 5, n);
            x.close();
            due.is("the head's lower byte, " + n, x.word(0) & 255, n & 255);
            due.is("the head's higher byte, " + n, x.word(0) >> 8 & 127, n >> 8);
            due.is("size(0)", x.size(0), 2 + n);
        }
        for (int n : new int[] {300, 1000, 8192}) {
            Run x = new Run();
            x.fill(2, 5, n);
            x.close();
            due.is("the head of a piece that is packed", x.word(0) & 65535, x.size(0) - 2);
        }
    }

    private void asItIs() {
        due.by("and 32768 more if these are the piece as it is;");
        Run x = plainRow();
        x.put(0xabcdef, 3);
        x.close();
        due.is("as it is", x.word(0), 0xabcdef8003L);
        x = new Run();
        x.fill(1, 5, 8192);
        due.is("drawn bytes can't be packed", x.word(0) & 65535, 32768 + 8192);
        due.is("size(0)", x.size(0), 8194);
        byte[] drawn = Content.filled(1, 5, 8192);
        byte[] image = x.image();
        due.is("all bytes as they are, but from",
            Arrays.mismatch(Arrays.copyOfRange(image, 2, 8194), drawn), -1);
    }

    private void shorter() {
        due.by("otherwise they are a packed row of it, which is shorter.");
        for (int n = 1; n <= 10; n++) {
            Run x = new Run();
            x.fill(0, 65, n);
            x.close();
            due.is("as it is, " + n + " bytes", x.word(0) & 65535, 32768 + n);
            due.is("size(0)", x.size(0), n + 2);
        }
        // 3 bits, the byte 8, a length 7, a distance 5, the end 7: four bytes, and six around them
        Run x = new Run();
        x.fill(0, 65, 11);
        x.close();
        due.is("11 bytes in 10", x.word(0) & 65535, 10);
        due.is("size(0)", x.size(0), 12);
        due.is("read()", x.read(), 11);
        int[] differences = new int[3];
        Random random = new Random(8);
        for (int round = 0; round < 400; round++) {
            byte[] row = new byte[20 + random.nextInt(60)];
            int letters = 2 + random.nextInt(60);
            for (int i = 0; i < row.length; i++) {
                row[i] = (byte) random.nextInt(letters);
            }
            int packed = Model.pack(row).length;
            Run y = new Content().bytes(row).closed(false);
            due.is("a head", y.word(0) & 65535, packed < row.length ? packed : 32768 + row.length);
            int difference = packed - row.length + 1;
            if (difference >= 0 && difference < 3) {
                differences[difference]++;
            }
        }
        due.holds("one shorter, the same and one longer were reached",
            differences[0] > 0 && differences[1] > 0 && differences[2] > 0);
    }

    private void plain() {
        due.by("With the row PLAIN all are as they are.");
        Run x = plainRow();
        x.fill(0, 65, 65536);
        due.is("size(0)", x.size(0), 8 * 8194);
        for (int i = 0; i < 8; i++) {
            due.is("head " + i, x.word(8194 * i / 8) >>> (8 * (8194 * i % 8)) & 65535, 32768 + 8192);
        }
        x.begin(true);
        x.fill(0, 65, 8192 + 100);
        x.close();
        due.is("size(0) with a short last piece", x.size(0), 8194 + 102);
        x.begin(false);
        x.fill(0, 65, 65536);
        due.holds("not plain", x.size(0) < 1000);
    }

    private void image() {
        due.by("Closed pieces come behind the IMAGE, a row of at most 66000 bytes.");
        // the longest image there can be has eight pieces as they are
        Run x = new Run();
        x.fill(1, 77, 65536);
        due.is("size(0) of the longest", x.size(0), 65552);
        byte[] image = x.image();
        byte[] row = Content.filled(1, 77, 65536);
        for (int i = 0; i < 8; i++) {
            byte[] piece = Arrays.copyOfRange(row, 8192 * i, 8192 * i + 8192);
            byte[] there = Arrays.copyOfRange(image, 8194 * i, 8194 * i + 8194);
            due.is("piece " + i + " differs from", Arrays.mismatch(there, Images.plainPiece(piece)), -1);
        }
        x = new Run();
        x.fill(0, 1, 8192);
        int first = x.size(0);
        x.fill(1, 1, 8192);
        due.is("a piece as it is behind a packed one", x.size(0), first + 8194);
        byte[] mixed = x.image();
        due.is("its head", (mixed[first] & 255) + 256 * (mixed[first + 1] & 255), 32768 + 8192);
    }

    private void starts() {
        due.by("A piece's START is the number of the image's bytes before it.");
        Run x = new Run();
        int[] before = new int[8];
        for (int i = 0; i < 8; i++) {
            before[i] = x.size(0);
            x.fill(i % 3, i, 8192);
        }
        x.close();
        x.read();
        for (int i = 0; i < 8; i++) {
            due.is("start(" + i + ")", x.start(i), before[i]);
        }
    }

    private void references() {
        due.by("A REFERENCE to a place in the row is 65536 * its piece's start + the place in the piece.");
        Run x = plainRow();
        x.fill(0, 1, 65535);
        due.is("the greatest of a row", x.reference(), 65536L * 7 * 8194 + 8191);
        x.put(0xee, 1);
        x.close();
        x.read();
        due.is("its byte", x.byteAt(65536L * 7 * 8194 + 8191), 0xee);
        due.is("the byte before", x.byteAt(65536L * 7 * 8194 + 8190), 1);
        x.begin(false);
        x.fill(0, 1, 8192);
        int second = x.size(0);
        due.is("behind a packed piece", x.reference(), 65536L * second);
        x.put(0xcdef, 2);
        due.is("two more", x.reference(), 65536L * second + 2);
        x.close();
        x.read();
        due.is("the byte at its second place", x.byteAt(65536L * second + 1), 0xcd);
    }

    private void newObject() {
        due.by("An empty row, not plain, no image, nothing read.");
        due.is("reference()", new PieceRow().reference(), 0);
        due.is("close()", new PieceRow().close(), 0);
        PieceRow x = new PieceRow();
        for (int what = 0; what < 3; what++) {
            due.is("size(" + what + ")", x.size(what), 0);
        }
        due.is("word(0)", x.word(0), 0);
        due.is("patch(0, 0)", x.patch(0, 0), BAD);
        due.is("cut(0)", x.cut(0), BAD);
        due.is("read()", x.read(), BAD);
        due.is("byteAt(0)", x.byteAt(0), NONE);
        due.is("start(0)", x.start(0), NONE);
        due.is("put(1, 1)", x.put(1, 1), 1);
        due.is("fill(0, 0, 8191)", x.fill(0, 1, 8191), 8192);
        due.holds("not plain", x.size(0) < 1000);
    }

    private void begin() {
        due.by("Begins a new row: the image is empty,");
        for (boolean plain : new boolean[] {false, true}) {
            Run x = new Run();
            x.fill(1, 7, 9000);
            x.begin(plain);
            due.is("in an open row: reference()", x.reference(), 0);
            due.is("size(0)", x.size(0), 0);
            due.is("word(0)", x.word(0), 0);
            due.is("counts anew", x.put(5, 2), 2);
            due.is("pieces are counted anew", x.close(), 1);
            due.is("size(0)", x.size(0), 4);
            due.is("word(0)", x.word(0), 0x00058002L);
            x.begin(plain);
            due.is("in a closed row: reference()", x.reference(), 0);
            due.is("size(0)", x.size(0), 0);
            due.is("open: patch", x.patch(0, 0), BAD);
            due.is("open: cut", x.cut(0), BAD);
            due.is("open: put", x.put(5, 1), 1);
            x.begin(plain);
            due.is("close() of none", x.close(), 0);
            due.is("read() of none", x.read(), 0);
            x.begin(plain);
            x.fill(2, 1, 65536);
            x.begin(plain);
            due.is("in a full row: fill", x.fill(2, 1, 65536), 65536);
        }
        Run x = new Run();
        x.begin(true);
        x.begin(false);
        x.fill(0, 1, 8192);
        due.holds("begin(false) behind begin(true)", x.size(0) < 1000);
        x.begin(true);
        x.fill(0, 1, 8192);
        due.is("begin(true) behind begin(false)", x.size(0), 8194);
    }

    private void beginKeepsWhatWasRead() {
        due.by("what was read stays.");
        Run x = new Run();
        x.fill(0, 7, 8192);
        int second = x.size(0);
        x.fill(0, 8, 100);
        x.close();
        due.is("read()", x.read(), 8292);
        for (boolean plain : new boolean[] {true, false}) {
            x.begin(plain);
            x.fill(0, 9, 20000);
            due.is("size(1)", x.size(1), 8292);
            due.is("size(2)", x.size(2), 2);
            due.is("byteAt(8191)", x.byteAt(8191), 7);
            due.is("byteAt in the second", x.byteAt(65536L * second + 99), 8);
            due.is("byteAt behind it", x.byteAt(65536L * second + 100), NONE);
            due.is("start(1)", x.start(1), second);
            due.is("start(2)", x.start(2), NONE);
        }
    }

    private void put() {
        due.by("The n lowest of eight bytes come behind the row, the lowest one first: how many it has.");
        for (int n = 1; n <= 8; n++) {
            Run x = plainRow();
            due.is("put(.., " + n + ")", x.put(0x8899aabbccddeeffL, n), n);
            due.is("put(.., " + n + ") again", x.put(0x8877665544332211L, n), 2 * n);
            x.close();
            byte[] image = x.image();
            for (int i = 0; i < n; i++) {
                due.is("byte " + i + " of " + n, image[2 + i] & 255, 0xff - 0x11 * i);
                due.is("byte " + i + " of the next " + n, image[2 + n + i] & 255, 0x11 * (i + 1));
            }
        }
        Run x = plainRow();
        due.is("put(-1, 1)", x.put(-1, 1), 1);
        due.is("put(least, 8)", x.put(Long.MIN_VALUE, 8), 9);
        due.is("put(0, 3)", x.put(0, 3), 12);
        x.close();
        due.is("word(0)", x.word(0), 0x0000000000ff800cL);
        due.is("word(1)", x.word(1), 0x800000);
    }

    private void putBad() {
        due.by(PUT_REFUSED);
        for (int n : new int[] {LEAST, -1, 0, 9, 256, 257, 264, MOST}) {
            Run x = new Run();
            due.is("put(1, " + n + ")", x.put(1, n), BAD);
            due.is("put(1, " + n + ") again", x.put(1, n), BAD);
            Content some = new Content().fill(2, 1, 8190);
            changesNothing(due, "put(1, " + n + ")", some, false, y -> y.put(1, n));
        }
        Run x = new Run();
        due.is("put(1, 1)", x.put(1, 1), 1);
        due.is("put(1, 8)", x.put(1, 8), 9);
        x.fill(0, 0, 65536 - 9);
        due.is("put(1, 9) when full", x.put(1, 9), BAD);
        due.is("put(1, 0) when full", x.put(1, 0), BAD);
    }

    private void putClosed() {
        due.by(PUT_REFUSED);
        Content[] rows = {new Content(), new Content().fill(2, 1, 5), new Content().fill(2, 1, 65536)};
        for (Content row : rows) {
            Run x = row.closed(false);
            due.is("put(1, 1)", x.put(1, 1), BAD);
            due.is("put(1, 8)", x.put(1, 8), BAD);
            due.is("put(1, 0)", x.put(1, 0), BAD);
            changesNothing(due, "put(1, 8)", row, true, y -> y.put(1, 8));
            x.begin(false);
            due.is("put(1, 8) behind begin", x.put(1, 8), 8);
        }
    }

    private void putFull() {
        due.by(PUT_REFUSED);
        for (int n = 1; n <= 8; n++) {
            Content row = new Content().fill(2, 1, 65536 - n + 1);
            Run x = row.open(false);
            due.is("one too many of " + n, x.put(-1, n), FULL);
            if (n > 1) {
                due.is("just as many", x.put(-1, n - 1), 65536);
            }
            due.is("when full", x.put(-1, 1), FULL);
            due.is("all when full", x.put(-1, 8), FULL);
            int many = n;
            changesNothing(due, "put(-1, " + n + ")", row, false, y -> y.put(-1, many));
        }
    }

    private void fill() {
        due.by("So many bytes that are b's lowest eight bits (kind 0), or bytes drawn from b "
            + "(1: the bits 16 .. 23 of x, which is at first b and becomes 1103515245 x + 12345, an int, "
            + "before each; 2: the same, but 97 more than the bits 16 and 17) come behind the row: how many it has.");
        Run x = plainRow();
        due.is("fill(0, 513, 2)", x.fill(0, 513, 2), 2);
        due.is("fill(1, 1, 3)", x.fill(1, 1, 3), 5);
        due.is("fill(2, 1, 3)", x.fill(2, 1, 3), 8);
        x.close();
        // from 1: 1103527590, 2524885223 and 662824084 are drawn
        due.is("word(0)", x.word(0), 0x63817ec601018008L);
        due.is("word(1)", x.word(1), 0x6263L);
        for (int kind = 0; kind < 3; kind++) {
            for (int b : new int[] {0, 1, -1, 255, 256, -256, -12345, LEAST, MOST, 1 << 16, 1103515245}) {
                Run y = plainRow();
                due.is("fill(" + kind + ", " + b + ", 1)", y.fill(kind, b, 1), 1);
                due.is("fill(" + kind + ", " + b + ", 500)", y.fill(kind, b, 500), 501);
                y.close();
                byte[] want = Images.plainPiece(Images.joined(
                    Content.filled(kind, b, 1), Content.filled(kind, b, 500)));
                due.is("what fill(" + kind + ", " + b + ", ..) drew differs from",
                    Arrays.mismatch(y.image(), want), -1);
            }
        }
    }

    private void fillBad() {
        due.by(FILL_REFUSED);
        Content some = new Content().fill(2, 1, 8190);
        for (int kind : new int[] {LEAST, -1, 3, 4, 256, MOST}) {
            due.is("fill(" + kind + ", 0, 1)", new Run().fill(kind, 0, 1), BAD);
            changesNothing(due, "fill(" + kind + ", 0, 4)", some, false, y -> y.fill(kind, 0, 4));
        }
        for (int n : new int[] {LEAST, -65536, -1, 0, 65537, 65536 * 2, 65536 * 32767, MOST}) {
            for (int kind = 0; kind < 3; kind++) {
                int drawn = kind;
                due.is("fill(" + kind + ", 0, " + n + ")", new Run().fill(kind, 0, n), BAD);
                changesNothing(due, "fill(" + kind + ", 0, " + n + ")", some, false, y -> y.fill(drawn, 0, n));
            }
        }
        for (int kind = 0; kind < 3; kind++) {
            due.is("fill(" + kind + ", 0, 1)", new Run().fill(kind, 0, 1), 1);
            Run x = new Run();
            due.is("fill(" + kind + ", 0, 65536)", x.fill(kind, 0, 65536), 65536);
            due.is("fill(" + kind + ", 0, 65537) when full", x.fill(kind, 0, 65537), BAD);
            due.is("fill(" + kind + ", 0, 0) when full", x.fill(kind, 0, 0), BAD);
            due.is("fill(3, 0, 1) when full", x.fill(3, 0, 1), BAD);
        }
    }

    private void fillClosed() {
        due.by(FILL_REFUSED);
        Content[] rows = {new Content(), new Content().fill(2, 1, 5), new Content().fill(2, 1, 65536)};
        for (Content row : rows) {
            Run x = row.closed(false);
            due.is("fill(0, 1, 1)", x.fill(0, 1, 1), BAD);
            due.is("fill(1, 1, 65536)", x.fill(1, 1, 65536), BAD);
            due.is("fill(3, 1, 0)", x.fill(3, 1, 0), BAD);
            changesNothing(due, "fill(2, 1, 9)", row, true, y -> y.fill(2, 1, 9));
            x.begin(false);
            due.is("fill(0, 1, 1) behind begin", x.fill(0, 1, 1), 1);
        }
    }

    private void fillFull() {
        due.by(FILL_REFUSED);
        int[] before = {1, 65535, 65536, 8192, 8191};
        int[] many = {65536, 2, 1, 57345, 57346};
        for (int i = 0; i < before.length; i++) {
            for (int kind = 0; kind < 3; kind++) {
                Content row = new Content().fill(2, 1, before[i]);
                Run x = row.open(false);
                int drawn = kind;
                int n = many[i];
                due.is("one too many of " + n, x.fill(kind, 1, n), FULL);
                if (n > 1) {
                    due.is("just as many", x.fill(kind, 1, n - 1), 65536);
                }
                due.is("when full", x.fill(kind, 1, 1), FULL);
                changesNothing(due, "fill(" + kind + ", 1, " + n + ")", row, false, y -> y.fill(drawn, 1, n));
            }
        }
    }

    private void reference() {
        due.by("The reference to the place at which the next byte would come.");
        Run x = plainRow();
        due.is("at first", x.reference(), 0);
        x.put(0, 1);
        due.is("behind one", x.reference(), 1);
        x.fill(0, 0, 8190);
        due.is("before the end of a piece", x.reference(), 8191);
        x.put(0, 1);
        due.is("behind a piece", x.reference(), 65536L * 8194);
        x.put(0, 1);
        due.is("in the next", x.reference(), 65536L * 8194 + 1);
        x.fill(0, 0, 65535 - 8193);
        due.is("the last place", x.reference(), 65536L * 7 * 8194 + 8191);
        x.put(0, 1);
        due.is("when full", x.reference(), 65536L * 8 * 8194);
        x.begin(false);
        due.is("behind begin", x.reference(), 0);
        x.fill(0, 0, 8195);
        due.is("behind a packed piece", x.reference(), 65536L * x.size(0) + 3);
    }

    private void referenceClosed() {
        due.by("BAD: the row is closed.");
        for (int n : new int[] {0, 1, 8192, 65536}) {
            Content row = n > 0 ? new Content().fill(0, 4, n) : new Content();
            due.is("reference() of " + n + ", closed", row.closed(false).reference(), BAD);
            due.is("reference() of " + n + ", plain and closed", row.closed(true).reference(), BAD);
        }
    }

    private void close() {
        due.by("What is left (if anything is) becomes a piece, and the row is closed: how many pieces it has.");
        int[] sizes = {0, 1, 8191, 8192, 8193, 16384, 65535, 65536};
        int[] pieces = {0, 1, 1, 1, 2, 2, 8, 8};
        for (int i = 0; i < sizes.length; i++) {
            for (boolean plain : new boolean[] {false, true}) {
                Content row = sizes[i] > 0 ? new Content().fill(0, 4, sizes[i]) : new Content();
                Run x = row.open(plain);
                int before = x.size(0);
                due.is("close() of " + sizes[i], x.close(), pieces[i]);
                due.holds("a piece came just if something was left: " + sizes[i],
                    (x.size(0) > before) == (sizes[i] % 8192 > 0));
                due.is("read()", x.read(), sizes[i]);
            }
        }
    }

    private void closeClosed() {
        due.by("BAD: it is closed.");
        Content[] rows = {new Content(), new Content().fill(2, 1, 5), new Content().fill(2, 1, 65536)};
        for (Content row : rows) {
            Run x = row.closed(false);
            due.is("close() again", x.close(), BAD);
            due.is("and again", x.close(), BAD);
            changesNothing(due, "close()", row, true, Run::close);
            x.begin(false);
            due.is("behind begin", x.close(), 0);
        }
    }
}
