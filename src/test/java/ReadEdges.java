import java.util.Arrays;

/** Reading an image, its faults 1 and 2, and promises 11 to 13. */
final class ReadEdges {
    private static final int BAD = -1;
    private static final int NONE = -2;
    private static final int HEADS = -11;
    private static final int PIECES = -12;
    private static final String BYTE_AT =
        "The byte at a reference in what was read; NONE: there is no such piece, or place in it.";
    private static final String START = "The start of piece i of what was read; NONE: there is none.";

    private final Due due;
    private final byte[] one = Images.plainPiece(Images.bytes(5));
    private final byte[] full = Images.packedPiece(Model.pack(new byte[8192]));

    private ReadEdges(Due due) {
        this.due = due;
    }

    static void all(Due due) {
        ReadEdges edges = new ReadEdges(due);
        edges.firstFault();
        edges.headsTell();
        edges.bytesAreThere();
        edges.packedRowsHold();
        edges.piecesAreFull();
        edges.allTogether();
        edges.rowOfNone();
        edges.untilTheNext();
        edges.nothingRead();
        edges.read();
        edges.readNotClosed();
        edges.byteAt();
        edges.byteAtNoPiece();
        edges.byteAtNoPlace();
        edges.start();
        edges.startOfNone();
    }

    private Run reads(String what, byte[] image, int want) {
        Run x = Images.laid(image);
        due.is(what + ": read()", x.read(), want);
        due.is(what + ": size(1)", x.size(1), Math.max(0, want));
        return x;
    }

    private static byte[] times(byte[] row, int n) {
        byte[] all = {};
        for (int i = 0; i < n; i++) {
            all = Images.joined(all, row);
        }
        return all;
    }

    private void firstFault() {
        due.by("READING the image, from its beginning, looks for what does not hold, "
            + "and names the first of these faults:");
        byte[] noRow = Images.packedPiece(Images.bytes(1, 2, 3));
        byte[] noHead = Images.bytes(0, 0);
        reads("no packed row", noRow, PIECES);
        reads("no packed row, then no head", Images.joined(noRow, noHead), HEADS);
        reads("no head, then no packed row", Images.joined(noHead, noRow), HEADS);
        reads("a short piece, then no head", Images.joined(one, one, noHead), HEADS);
        reads("nine full pieces, then no head", Images.joined(times(full, 9), noHead), HEADS);
        reads("no packed row, then bytes missing", Images.joined(noRow, Images.piece(2, Images.bytes(5))), HEADS);
        reads("a full piece, then no packed row", Images.joined(full, noRow), PIECES);
        reads("a full piece, no packed row, half a head", Images.joined(full, noRow, Images.bytes(1)), HEADS);
    }

    private void headsTell() {
        due.by("1 HEADS: each piece's head tells 1 to 8192 bytes,");
        for (int more : new int[] {0, 32768}) {
            reads("a head of 0 and " + more, Images.piece(more, Images.bytes(5)), HEADS);
            byte[] head = Images.bytes(0, more >> 8);
            reads("a head of 0 and " + more + " behind a piece", Images.joined(full, head), HEADS);
            reads("a head of 16385 and " + more, Images.piece(1 + 16384 + more, Images.bytes(5)), HEADS);
            reads("a head of 8193 and " + more + ", bytes missing", Images.piece(8193 + more, new byte[3000]), HEADS);
        }
        reads("a head of 1", one, 1);
        // an image of nearly three pieces, so that all bytes that a head tells are there
        int[] heads = {8192, 8193, 8194, 12288, 16383, 16384, 16385, 24000, 32767};
        for (int head : heads) {
            for (int more : new int[] {0, 32768}) {
                Run x = new Content().fill(0, 7, 24000).closed(true);
                x.cut(Math.min(2 + head, 24006));
                x.patch(0, head);
                x.patch(1, (head + more) >> 8);
                int want = head > 8192 ? HEADS : more > 0 ? 8192 : PIECES;
                due.is("a head of " + head + " and " + more, x.read(), want);
            }
        }
    }

    private void bytesAreThere() {
        due.by("and they are there;");
        for (int n : new int[] {1, 2, 255, 256, 257, 8191, 8192}) {
            for (int went : new int[] {1, n, n + 1}) {
                Run x = new Content().fill(0, 7, n).closed(true);
                x.cut(n + 2 - went);
                due.is(n + " bytes, " + went + " missing", x.read(), HEADS);
            }
            due.is(n + " bytes", new Content().fill(0, 7, n).closed(true).read(), n);
        }
        reads("a byte missing in a packed one", Arrays.copyOf(full, full.length - 1), HEADS);
        reads("half a head behind", Images.joined(full, Images.bytes(1)), HEADS);
        reads("half a head of 0 behind", Images.joined(full, Images.bytes(0)), HEADS);
        reads("a head without bytes behind", Images.joined(full, Images.bytes(1, 128)), HEADS);
        Run x = new Content().fill(0, 7, 8192).closed(true);
        x.patch(0, 255);
        x.patch(1, 159);
        due.is("a head of 8191 with a byte left", x.read(), HEADS);
        x = new Content().fill(1, 7, 65536).closed(true);
        x.cut(65551);
        due.is("the longest, a byte missing", x.read(), HEADS);
    }

    private void packedRowsHold() {
        due.by("2 PIECES, one after the other: each that is packed is a packed row, without a fault, "
            + "of 1 to 8192 bytes;");
        byte[] none = Images.packedPiece(Images.packed(120, 156, Images.bytes(3, 0), new byte[0]));
        reads("of none", none, PIECES);
        reads("of none behind a full one", Images.joined(full, none), PIECES);
        reads("of none before one", Images.joined(none, one), PIECES);
        for (int n : new int[] {1, 2, 8191, 8192}) {
            Run x = reads("of " + n, Images.packedPiece(Model.pack(Images.many(9, n))), n);
            due.is("size(2)", x.size(2), 1);
            due.is("its last byte", x.byteAt(n - 1), 9);
            due.is("none behind it", x.byteAt(n), NONE);
        }
        reads("of 8193", Images.packedPiece(Model.pack(Images.many(9, 8193))), PIECES);
        reads("of 16384", Images.packedPiece(Model.pack(Images.many(9, 16384))), PIECES);
        byte[] faulty = full.clone();
        faulty[full.length - 1] ^= 1;
        reads("a fault in the first", Images.joined(faulty, one), PIECES);
        reads("a fault in the second", Images.joined(full, faulty, one), PIECES);
        reads("a fault in the last", Images.joined(full, full, faulty), PIECES);
        reads("a fault in the eighth", Images.joined(times(full, 7), faulty), PIECES);
        byte[] longer = Images.packed(120, 156, Images.bytes(1, 1, 0, -2, -1, 5), Images.bytes(5));
        reads("a packed row that is longer than what it holds", Images.packedPiece(longer), 1);
    }

    private void piecesAreFull() {
        due.by("each piece but the last one has just 8192;");
        for (int n : new int[] {1, 2, 4096, 8191}) {
            byte[] packed = Images.packedPiece(Model.pack(Images.many(9, n)));
            reads("a packed one of " + n + " at the end", Images.joined(full, packed), 8192 + n);
            reads("a packed one of " + n + " before one", Images.joined(packed, one), PIECES);
            reads("a packed one of " + n + " between", Images.joined(full, packed, full), PIECES);
            reads("a packed one of " + n + " before itself", Images.joined(packed, packed), PIECES);
        }
        for (int n : new int[] {1, 2, 3000}) {
            byte[] plain = Images.plainPiece(Images.many(9, n));
            reads("a plain one of " + n + " at the end", Images.joined(full, plain), 8192 + n);
            reads("a plain one of " + n + " before one", Images.joined(plain, one), PIECES);
            reads("a plain one of " + n + " between", Images.joined(full, plain, full), PIECES);
        }
        Run x = new Content().fill(1, 7, 8191 + 3).closed(true);
        x.patch(0, 255);
        x.patch(1, 159);
        // the last byte and the next head's two: a head of one byte, as it is
        x.patch(2 + 8191, 1);
        x.patch(2 + 8192, 128);
        x.cut(2 + 8191 + 3);
        due.is("a plain one of 8191 before one", x.read(), PIECES);
        due.is("plain ones of 8192", new Content().fill(1, 7, 16384).closed(true).read(), 16384);
    }

    private void allTogether() {
        due.by("all are 65536 at most.");
        byte[] eight = times(full, 8);
        Run x = reads("eight full ones", eight, 65536);
        due.is("size(2)", x.size(2), 8);
        due.is("start(7)", x.start(7), 7L * full.length);
        due.is("the last byte", x.byteAt(65536L * 7 * full.length + 8191), 0);
        reads("seven, and 8191", Images.joined(times(full, 7), Images.packedPiece(Model.pack(new byte[8191]))), 65535);
        reads("eight, and one byte", Images.joined(eight, one), PIECES);
        byte[] packedOne = Images.packedPiece(Model.pack(new byte[1]));
        reads("eight, and a packed row of one", Images.joined(eight, packedOne), PIECES);
        reads("nine", times(full, 9), PIECES);
        reads("ten", times(full, 10), PIECES);
        reads("a thousand", times(one, 1000), PIECES);
        reads("a thousand, and half a head", Images.joined(times(one, 1000), Images.bytes(1)), HEADS);
        Run plain = new Content().fill(1, 1, 65536).closed(true);
        due.is("eight plain ones", plain.read(), 65536);
        byte[] row = Content.filled(1, 1, 65536);
        for (int i = 0; i < 65536; i += 8191) {
            due.is("its byte " + i, plain.byteAt(65536L * 8194 * (i / 8192) + i % 8192), row[i] & 255);
        }
        due.is("its last byte", plain.byteAt(65536L * 7 * 8194 + 8191), row[65535] & 255);
    }

    private void rowOfNone() {
        due.by("Without bytes it is a row of none.");
        for (boolean plain : new boolean[] {false, true}) {
            Run x = new Content().closed(plain);
            due.is("read()", x.read(), 0);
            isNone(x, "a row of none");
            x.begin(plain);
            x.fill(0, 5, 9000);
            x.close();
            x.read();
            x.cut(0);
            due.is("read(), all cut", x.read(), 0);
            isNone(x, "all cut");
        }
    }

    private void isNone(Run x, String what) {
        due.is(what + ": size(1)", x.size(1), 0);
        due.is(what + ": size(2)", x.size(2), 0);
        due.is(what + ": byteAt(0)", x.byteAt(0), NONE);
        due.is(what + ": start(0)", x.start(0), NONE);
    }

    private void untilTheNext() {
        due.by("What was READ is told by byteAt() until the next read();");
        Run x = new Run();
        x.fill(0, 7, 100);
        x.close();
        due.is("read()", x.read(), 100);
        isSeven(x, "behind read()");
        x.patch(3, 99);
        isSeven(x, "behind patch");
        x.cut(5);
        isSeven(x, "behind cut");
        x.begin(true);
        isSeven(x, "behind begin");
        x.put(5, 1);
        x.fill(0, 8, 8191);
        isSeven(x, "behind a piece");
        x.close();
        isSeven(x, "behind close()");
        due.is("the next read()", x.read(), 8192);
        due.is("byteAt(0)", x.byteAt(0), 5);
        due.is("byteAt(99)", x.byteAt(99), 8);
        due.is("byteAt(100)", x.byteAt(100), 8);
    }

    private void isSeven(Run x, String what) {
        due.is(what + ": byteAt(0)", x.byteAt(0), 7);
        due.is(what + ": byteAt(99)", x.byteAt(99), 7);
        due.is(what + ": byteAt(100)", x.byteAt(100), NONE);
        due.is(what + ": start(0)", x.start(0), 0);
        due.is(what + ": start(1)", x.start(1), NONE);
        due.is(what + ": size(1)", x.size(1), 100);
    }

    private void nothingRead() {
        due.by("before the first one, and behind one with a fault, there is none.");
        Run x = new Run();
        isNone(x, "new");
        x.fill(0, 7, 8300);
        isNone(x, "open");
        x.close();
        isNone(x, "closed");
        due.is("read()", x.read(), 8300);
        int second = x.start(1);
        x.patch(second, 0);
        x.patch(second + 1, 0);
        due.is("a fault in a head", x.read(), HEADS);
        isNone(x, "a fault in a head");
        due.is("no second piece", x.start(1), NONE);
        due.is("no byte of it", x.byteAt(65536L * second), NONE);
        x.patch(second, x.size(0) - second - 2);
        due.is("mended", x.read(), 8300);
        due.is("byteAt(0)", x.byteAt(0), 7);
        x.patch(second + 2, 0);
        due.is("a fault in the second piece", x.read(), PIECES);
        isNone(x, "a fault in the second piece");
        due.is("a fault again", x.read(), PIECES);
        isNone(x, "a fault again");
    }

    private void read() {
        due.by("Reads the image: how many bytes, or -10 less the fault (what was read before is gone then).");
        Run x = new Content().fill(2, 7, 20000).closed(false);
        due.is("read()", x.read(), 20000);
        due.is("read() again", x.read(), 20000);
        byte[] row = Content.filled(2, 7, 20000);
        for (int i = 0; i < 20000; i += 97) {
            due.is("byte " + i, x.byteAt(65536L * x.start(i / 8192) + i % 8192), row[i]);
        }
        int last = x.size(0) - 1;
        int was = x.patch(last, 0);
        x.patch(last, was + 1);
        due.is("fault 2", x.read(), -12);
        isNone(x, "fault 2");
        x.patch(last, was);
        due.is("read() when mended", x.read(), 20000);
        x.cut(last);
        due.is("fault 1", x.read(), -11);
        isNone(x, "fault 1");
    }

    private void readNotClosed() {
        due.by("Reads the image: how many bytes, or -10 less the fault (what was read before is gone then). "
            + "BAD: the row is not closed.");
        Content[] rows = {new Content(), new Content().fill(2, 1, 8200), new Content().fill(2, 1, 65536)};
        for (Content row : rows) {
            Run x = row.open(false);
            due.is("read()", x.read(), BAD);
            isNone(x, "read() when open");
            RowEdges.changesNothing(due, "read()", row, false, Run::read);
        }
        Run x = new Run();
        x.fill(0, 7, 100);
        x.close();
        x.read();
        x.begin(false);
        due.is("read() behind begin", x.read(), BAD);
        isSeven(x, "a read() that is refused");
        x.fill(0, 9, 8192);
        due.is("read() with a piece", x.read(), BAD);
        isSeven(x, "a read() that is refused again");
    }

    private void byteAt() {
        due.by(BYTE_AT);
        Run x = new Run();
        x.fill(1, 3, 8192);
        long second = x.reference();
        x.put(0xabcdL, 2);
        long place = x.reference();
        x.put(0xef, 1);
        x.close();
        x.read();
        byte[] first = Content.filled(1, 3, 8192);
        for (int i = 0; i < 8192; i += 63) {
            due.is("byteAt(" + i + ")", x.byteAt(i), first[i] & 255);
        }
        due.is("byteAt(8191)", x.byteAt(8191), first[8191] & 255);
        due.is("byteAt(second)", x.byteAt(second), 0xcd);
        due.is("byteAt(second + 1)", x.byteAt(second + 1), 0xab);
        due.is("byteAt(place)", x.byteAt(place), 0xef);
    }

    private void byteAtNoPiece() {
        due.by(BYTE_AT);
        Run x = new Content().fill(2, 3, 8192 + 3).closed(false);
        x.read();
        long second = 65536L * x.start(1);
        due.is("byteAt(second)", x.byteAt(second), Content.filled(2, 3, 8195)[8192]);
        long[] none = {
            -1, -65536, -65535, 65536, 65536 * 2, second - 65536, second + 65536, second - 1, second + (1L << 32),
            second + (1L << 48), second | 1L << 63, 1L << 32, 1L << 48, 1L << 63, -(1L << 32), -(1L << 48),
            Long.MAX_VALUE, Long.MIN_VALUE + 1, 65536L * x.size(0), 65536L * 65552, -second, 1L << 47
        };
        for (long no : none) {
            due.is("byteAt(" + no + ")", x.byteAt(no), NONE);
        }
    }

    private void byteAtNoPlace() {
        due.by(BYTE_AT);
        Run x = new Content().fill(2, 3, 16384 + 3).closed(false);
        x.read();
        byte[] row = Content.filled(2, 3, 16387);
        for (int i = 0; i < 3; i++) {
            long start = 65536L * x.start(i);
            int bytes = i < 2 ? 8192 : 3;
            due.is("the last place of " + i, x.byteAt(start + bytes - 1), row[8192 * i + bytes - 1]);
            for (int place : new int[] {bytes, bytes + 1, 8192, 8193, 16384, 32768, 65535}) {
                due.is("piece " + i + ", place " + place, x.byteAt(start + place), NONE);
            }
        }
    }

    private void start() {
        due.by(START);
        Run x = new Run();
        x.fill(0, 3, 8192);
        int second = x.size(0);
        x.fill(1, 3, 8192);
        int third = x.size(0);
        x.put(1, 1);
        x.close();
        x.read();
        due.is("start(0)", x.start(0), 0);
        due.is("start(1)", x.start(1), second);
        due.is("start(2)", x.start(2), third);
        x.begin(true);
        x.fill(1, 3, 65536);
        x.close();
        due.is("start(1) of what was read", x.start(1), second);
        x.read();
        for (int i = 0; i < 8; i++) {
            due.is("start(" + i + ")", x.start(i), 8194 * i);
        }
    }

    private void startOfNone() {
        due.by(START);
        int[] none = {-1, -2, 8, 9, 256, 65536, Integer.MIN_VALUE, Integer.MAX_VALUE};
        for (int pieces = 0; pieces <= 8; pieces++) {
            Run x = pieces > 0 ? new Content().fill(0, 3, 8192 * pieces).closed(false) : new Content().closed(false);
            due.is("start(0), nothing read", x.start(0), NONE);
            x.read();
            due.is("start(" + pieces + ") of " + pieces, x.start(pieces), NONE);
            for (int i : none) {
                due.is("start(" + i + ") of " + pieces, x.start(i), NONE);
            }
            due.holds("start(" + (pieces - 1) + ")", pieces == 0 || x.start(pieces - 1) >= 0);
        }
    }
}
