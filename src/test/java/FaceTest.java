/** Promises 1 to 13, one after the other: ordinary calls, edges, and wrong ones. */
public final class FaceTest {
    private static final Due DUE = new Due();
    private static final int BAD = -1;
    private static final int NONE = -2;
    private static final int FULL = -3;

    public static void main(String[] args) {
        newObject();
        begin();
        put();
        fill();
        reference();
        close();
        size();
        word();
        patch();
        cut();
        readHeads();
        readPieces();
        readTooMany();
        whatWasRead();
        byteAt();
        start();
        DUE.end();
    }

    private static void newObject() {
        PieceRow x = new PieceRow();
        for (int what = 0; what < 3; what++) {
            DUE.is("new: size(" + what + ")", x.size(what), 0);
        }
        DUE.is("new: word(0)", x.word(0), 0);
        DUE.is("new: patch(0, 0)", x.patch(0, 0), BAD);
        DUE.is("new: cut(0)", x.cut(0), BAD);
        DUE.is("new: read()", x.read(), BAD);
        DUE.is("new: byteAt(0)", x.byteAt(0), NONE);
        DUE.is("new: start(0)", x.start(0), NONE);
        DUE.is("new: reference()", x.reference(), 0);
        DUE.is("new: fill", x.fill(0, 0, 8192), 8192);
        DUE.is("new: not plain, so packed", x.size(0) < 8192 ? 1 : 0, 1);
        DUE.is("new: close() of none", new PieceRow().close(), 0);
    }

    private static void begin() {
        PieceRow x = new PieceRow();
        x.fill(0, 7, 9000);
        x.close();
        DUE.is("read()", x.read(), 9000);
        x.begin(true);
        DUE.is("begin: size(0)", x.size(0), 0);
        DUE.is("begin: word(0)", x.word(0), 0);
        DUE.is("begin: size(1) stays", x.size(1), 9000);
        DUE.is("begin: size(2) stays", x.size(2), 2);
        DUE.is("begin: byteAt(0) stays", x.byteAt(0), 7);
        DUE.is("begin: start(1) stays", x.start(1) > 0 ? 1 : 0, 1);
        DUE.is("begin: reference()", x.reference(), 0);
        DUE.is("begin: open again", x.put(9, 1), 1);
        x.begin(false);
        DUE.is("begin: what was open is gone", x.reference(), 0);
        DUE.is("begin: counts anew", x.fill(0, 1, 8192), 8192);
        DUE.is("begin(false): packed", x.size(0) < 8192 ? 1 : 0, 1);
        x.begin(true);
        x.fill(0, 1, 8192);
        DUE.is("begin(true): as it is", x.size(0), 8194);
        DUE.is("begin(true): its head", x.word(0) & 65535, 8192 + 32768);
        DUE.is("pieces are counted anew", x.close(), 1);
    }

    private static void put() {
        PieceRow x = new PieceRow();
        x.begin(true);
        for (int n : new int[] {Integer.MIN_VALUE, -1, 0, 9, Integer.MAX_VALUE}) {
            DUE.is("put(1, " + n + ")", x.put(1, n), BAD);
        }
        DUE.is("put(.., 8)", x.put(0x8877665544332211L, 8), 8);
        DUE.is("put(.., 3)", x.put(0xffffffffffccbbaaL, 3), 11);
        DUE.is("put(.., 1)", x.put(-1, 1), 12);
        x.close();
        DUE.is("what was put, 0", x.word(0), 0x665544332211800cL);
        DUE.is("what was put, 1", x.word(1), 0xffccbbaa8877L);
        DUE.is("put when closed", x.put(1, 1), BAD);
        x.begin(true);
        x.fill(0, 0, 65529);
        DUE.is("put, one too many", x.put(-1, 8), FULL);
        DUE.is("put with n 9 when it would be full", x.put(-1, 9), BAD);
        DUE.is("nothing changed", x.reference(), 65536L * 7 * 8194 + 8185);
        DUE.is("put, just as many", x.put(-1, 7), 65536);
        DUE.is("put when full", x.put(1, 1), FULL);
        x.close();
        DUE.is("put when full and closed", x.put(1, 1), BAD);
        x.begin(true);
        x.fill(0, 0, 8190);
        DUE.is("put over a border", x.put(0x0807060504030201L, 8), 8198);
        DUE.is("a piece is closed when it is full", x.size(0), 8194);
        DUE.is("its last bytes", x.word(1024), 0x0201);
        x.close();
        DUE.is("the next ones", x.word(1024), 0x0605040380060201L);
    }

    private static void fill() {
        PieceRow x = new PieceRow();
        x.begin(true);
        for (int kind : new int[] {Integer.MIN_VALUE, -1, 3, Integer.MAX_VALUE}) {
            DUE.is("fill(" + kind + ", 0, 1)", x.fill(kind, 0, 1), BAD);
        }
        for (int n : new int[] {Integer.MIN_VALUE, -1, 0, 65537, Integer.MAX_VALUE}) {
            DUE.is("fill(0, 0, " + n + ")", x.fill(0, 0, n), BAD);
        }
        DUE.is("fill(0, 513, 2)", x.fill(0, 513, 2), 2);
        DUE.is("fill(1, 1, 3)", x.fill(1, 1, 3), 5);
        DUE.is("fill(2, 1, 3)", x.fill(2, 1, 3), 8);
        x.close();
        // from 1: 1103527590, 2524885223 and 662824084 are drawn
        DUE.is("what was filled, 0", x.word(0), 0x63817ec601018008L);
        DUE.is("what was filled, 1", x.word(1), 0x6263L);
        DUE.is("fill when closed", x.fill(0, 0, 1), BAD);
        x.begin(true);
        DUE.is("fill up", x.fill(0, 5, 65536), 65536);
        DUE.is("fill when full", x.fill(0, 5, 1), FULL);
        DUE.is("fill with a wrong kind when full", x.fill(3, 5, 1), BAD);
        x.begin(true);
        x.put(0, 1);
        DUE.is("fill one too many", x.fill(1, 5, 65536), FULL);
        DUE.is("nothing changed", x.reference(), 1);
        DUE.is("fill the rest", x.fill(1, 5, 65535), 65536);
        x.close();
        DUE.is("fill when full and closed", x.fill(0, 0, 1), BAD);
    }

    private static void reference() {
        PieceRow x = new PieceRow();
        x.begin(true);
        DUE.is("reference()", x.reference(), 0);
        x.fill(0, 0, 8191);
        DUE.is("reference() before the end", x.reference(), 8191);
        x.put(0, 1);
        DUE.is("reference() behind a piece", x.reference(), 65536L * 8194);
        x.fill(0, 0, 57344);
        DUE.is("reference() when full", x.reference(), 65536L * 8 * 8194);
        x.close();
        DUE.is("reference() when closed", x.reference(), BAD);
        x.begin(false);
        x.fill(0, 0, 8195);
        DUE.is("reference() behind a packed piece", x.reference(), 65536L * x.size(0) + 3);
    }

    private static void close() {
        PieceRow x = new PieceRow();
        x.begin(true);
        x.fill(0, 0, 8192);
        DUE.is("close() at a border", x.close(), 1);
        DUE.is("no piece of none", x.size(0), 8194);
        DUE.is("close() again", x.close(), BAD);
        x.begin(true);
        x.fill(0, 0, 8193);
        DUE.is("close() behind a border", x.close(), 2);
        DUE.is("a piece of one byte", x.size(0), 8197);
        x.begin(false);
        x.put(0x414141, 3);
        DUE.is("close() of three", x.close(), 1);
        DUE.is("packed would not be shorter", x.word(0), 0x4141418003L);
        DUE.is("its size", x.size(0), 5);
    }

    private static void size() {
        PieceRow x = new PieceRow();
        for (int what : new int[] {Integer.MIN_VALUE, -1, 3, Integer.MAX_VALUE}) {
            DUE.is("size(" + what + ")", x.size(what), BAD);
        }
        x.begin(true);
        x.fill(0, 9, 20000);
        DUE.is("size(0), open", x.size(0), 2 * 8194);
        x.close();
        DUE.is("size(0), closed", x.size(0), 20006);
        DUE.is("size(1), nothing read", x.size(1), 0);
        DUE.is("size(2), nothing read", x.size(2), 0);
        x.read();
        DUE.is("size(1)", x.size(1), 20000);
        DUE.is("size(2)", x.size(2), 3);
    }

    private static void word() {
        PieceRow x = new PieceRow();
        x.begin(true);
        x.put(-1, 8);
        DUE.is("word(0), nothing closed", x.word(0), 0);
        x.close();
        DUE.is("word(0)", x.word(0), 0xffffffffffff8008L);
        DUE.is("word(1), half", x.word(1), 0xffffL);
        for (int i : new int[] {2, -1, Integer.MIN_VALUE, Integer.MAX_VALUE, 1 << 29, 1 << 28, 9000}) {
            DUE.is("word(" + i + ")", x.word(i), 0);
        }
        x.cut(3);
        DUE.is("word(0), cut", x.word(0), 0xff8008L);
        DUE.is("word(1), cut", x.word(1), 0);
        x.begin(true);
        x.fill(0, 255, 65536);
        DUE.is("word(8193)", x.word(8193), -1);
        DUE.is("word(8194)", x.word(8194), 0);
    }

    private static void patch() {
        PieceRow x = new PieceRow();
        x.begin(true);
        x.fill(0, 200, 8192);
        DUE.is("patch when open", x.patch(0, 0), BAD);
        DUE.is("patch of none when open", x.patch(-1, 0), BAD);
        x.close();
        DUE.is("patch(2, -256 + 17)", x.patch(2, -256 + 17), 200);
        DUE.is("patch(2, 511)", x.patch(2, 511), 17);
        DUE.is("patch(2, 0)", x.patch(2, 0), 255);
        DUE.is("patch(8193, 1)", x.patch(8193, 1), 200);
        for (int i : new int[] {-1, 8194, Integer.MIN_VALUE, Integer.MAX_VALUE}) {
            DUE.is("patch(" + i + ", 0)", x.patch(i, 0), NONE);
        }
        DUE.is("read()", x.read(), 8192);
        DUE.is("byteAt(0)", x.byteAt(0), 0);
        DUE.is("byteAt(8191)", x.byteAt(8191), 1);
        x.patch(2, 33);
        DUE.is("what was read stays", x.byteAt(0), 0);
        x.cut(8193);
        DUE.is("patch of what was cut", x.patch(8193, 1), NONE);
    }

    private static void cut() {
        PieceRow x = new PieceRow();
        x.begin(true);
        x.fill(0, 5, 8200);
        DUE.is("cut when open", x.cut(0), BAD);
        x.close();
        DUE.is("size(0)", x.size(0), 8204);
        for (int n : new int[] {-1, 8205, Integer.MIN_VALUE, Integer.MAX_VALUE}) {
            DUE.is("cut(" + n + ")", x.cut(n), BAD);
        }
        DUE.is("read()", x.read(), 8200);
        DUE.is("cut(8204)", x.cut(8204), 0);
        DUE.is("cut(8194)", x.cut(8194), 10);
        DUE.is("cut(8195)", x.cut(8195), BAD);
        DUE.is("size(0)", x.size(0), 8194);
        DUE.is("what was read stays", x.size(1), 8200);
        DUE.is("read()", x.read(), 8192);
        DUE.is("cut(0)", x.cut(0), 8194);
        DUE.is("cut(0) again", x.cut(0), 0);
        DUE.is("read() of none", x.read(), 0);
        DUE.is("size(2)", x.size(2), 0);
    }

    /** An image laid as it is, read. */
    private static PieceRow reads(String what, byte[] image, int due) {
        PieceRow x = Images.laid(image);
        DUE.is(what, x.read(), due);
        DUE.is(what + ": size(1)", x.size(1), Math.max(0, due));
        return x;
    }

    private static byte[] twice(byte[] row) {
        return Images.joined(row, row);
    }

    private static void readHeads() {
        byte[] one = Images.plainPiece(new byte[] {5});
        reads("one byte", one, 1);
        reads("a head of 0", Images.piece(0, new byte[] {5}), -11);
        reads("a plain head of 0", Images.piece(32768, new byte[] {5}), -11);
        reads("a head of 8193", Images.piece(8193 + 32768, new byte[3000]), -11);
        reads("a head of 8193, packed", Images.piece(8193, new byte[3000]), -11);
        reads("a head of 16384 more", Images.piece(1 + 16384 + 32768, new byte[] {5}), -11);
        reads("a byte missing", Images.piece(2 + 32768, new byte[] {5}), -11);
        reads("half a head behind", Images.joined(one, new byte[] {1}), -11);
        reads("a head without bytes behind", Images.joined(one, new byte[] {1, (byte) 128}), -11);
        reads("a piece that is short, and a wrong head", Images.joined(twice(one), new byte[4]), -11);
        byte[] noRow = Images.packedPiece(new byte[] {1, 2, 3});
        reads("a packed row that is none", noRow, -12);
        reads("that, and a wrong head", Images.joined(noRow, new byte[4]), -11);
        PieceRow x = new PieceRow();
        x.begin(true);
        x.fill(0, 1, 8192);
        x.close();
        x.patch(0, 1);
        DUE.is("a head of 8193 with a byte missing", x.read(), -11);
        x.patch(0, 255);
        x.patch(1, 159);
        DUE.is("a head of 8191 with a byte left", x.read(), -11);
        DUE.is("cut(1)", x.cut(1), 8193);
        DUE.is("half a head", x.read(), -11);
    }

    private static void readPieces() {
        byte[] packed = Model.pack(new byte[8192]);
        byte[] shorter = Model.pack(new byte[8191]);
        byte[] full = Images.packedPiece(packed);
        byte[] one = Images.plainPiece(new byte[] {5});
        reads("a full piece and one byte", Images.joined(full, one), 8193);
        reads("two full pieces", twice(full), 16384);
        reads("a short piece alone", Images.packedPiece(shorter), 8191);
        reads("a short packed piece and one more", Images.joined(Images.packedPiece(shorter), one), -12);
        reads("a short plain piece and one more", twice(one), -12);
        reads("a fault in the second one",
            Images.joined(full, Images.packedPiece(new byte[] {120, (byte) 156, 3, 0})), -12);
        byte[] none = Images.packedPiece(Images.packed(120, 156, new byte[] {3, 0}, new byte[0]));
        reads("a packed row of none", none, -12);
        reads("a packed row of none at the end", Images.joined(full, none), -12);
        byte[] long5 = Images.packed(120, 156, new byte[] {1, 1, 0, -2, -1, 5}, new byte[] {5});
        reads("a packed row that is longer than its piece", Images.packedPiece(long5), 1);
    }

    private static void readTooMany() {
        byte[] full = Images.packedPiece(Model.pack(new byte[8192]));
        byte[] eight = twice(twice(twice(full)));
        byte[] one = Images.plainPiece(new byte[] {5});
        PieceRow x = reads("eight full pieces", eight, 65536);
        DUE.is("size(2)", x.size(2), 8);
        DUE.is("start(7)", x.start(7), 7L * full.length);
        DUE.is("byteAt, the last", x.byteAt(65536L * 7 * full.length + 8191), 0);
        reads("eight and one byte", Images.joined(eight, one), -12);
        PieceRow plain = new PieceRow();
        plain.begin(true);
        plain.fill(1, 1, 65536);
        DUE.is("close() of eight plain ones", plain.close(), 8);
        DUE.is("eight plain pieces", plain.read(), 65536);
        DUE.is("the last one's last byte", plain.byteAt(65536L * 7 * 8194 + 8191),
            plain.word(8193) >>> 56);
        reads("nine", Images.joined(eight, full), -12);
        reads("nine and a wrong head", Images.joined(eight, full, new byte[3]), -11);
        byte[] many = one;
        for (int i = 0; i < 10; i++) {
            many = twice(many);
        }
        reads("a thousand", many, -12);
        reads("a thousand and half a head", Images.joined(many, new byte[1]), -11);
    }

    private static void whatWasRead() {
        PieceRow x = new PieceRow();
        x.fill(0, 7, 100);
        x.close();
        DUE.is("read()", x.read(), 100);
        x.begin(false);
        DUE.is("read() when open", x.read(), BAD);
        DUE.is("a read() that is BAD reads nothing", x.size(1), 100);
        DUE.is("and what was read stays", x.byteAt(99), 7);
        x.fill(0, 8, 50);
        x.close();
        DUE.is("byteAt before the next read()", x.byteAt(99), 7);
        DUE.is("the next read()", x.read(), 50);
        DUE.is("byteAt behind its end", x.byteAt(50), NONE);
        DUE.is("byteAt", x.byteAt(49), 8);
        x.patch(1, 127);
        DUE.is("a read() with a fault", x.read(), -11);
        DUE.is("nothing is read", x.size(1), 0);
        DUE.is("no pieces", x.size(2), 0);
        DUE.is("no byte", x.byteAt(0), NONE);
        DUE.is("no start", x.start(0), NONE);
    }

    private static void byteAt() {
        PieceRow x = new PieceRow();
        x.fill(1, 3, 8192);
        long second = x.reference();
        x.put(0xabcdL, 2);
        long place = x.reference();
        x.put(0xef, 1);
        x.close();
        x.read();
        DUE.is("byteAt(second)", x.byteAt(second), 0xcd);
        DUE.is("byteAt(second + 1)", x.byteAt(second + 1), 0xab);
        DUE.is("byteAt(place)", x.byteAt(place), 0xef);
        DUE.is("byteAt behind the last", x.byteAt(place + 1), NONE);
        DUE.is("byteAt(8191)", x.byteAt(8191) >= 0 ? 1 : 0, 1);
        for (long no : new long[] {
            8192, 65535, 65536, -1, second - 65536, second + 65536, second - 1, second + (1L << 48),
            second + (1L << 32), second | 1L << 63, Long.MIN_VALUE, Long.MAX_VALUE, 1L << 48, 1L << 32,
            -65536, second + 65535, second + 8192
        }) {
            DUE.is("byteAt(" + no + ")", x.byteAt(no), NONE);
        }
    }

    private static void start() {
        PieceRow x = new PieceRow();
        x.fill(0, 3, 8192);
        int second = x.size(0);
        x.fill(1, 3, 8192);
        int third = x.size(0);
        x.put(1, 1);
        x.close();
        DUE.is("start(0), nothing read", x.start(0), NONE);
        x.read();
        DUE.is("start(0)", x.start(0), 0);
        DUE.is("start(1)", x.start(1), second);
        DUE.is("start(2)", x.start(2), third);
        for (int i : new int[] {-1, 3, 8, 9, Integer.MIN_VALUE, Integer.MAX_VALUE}) {
            DUE.is("start(" + i + ")", x.start(i), NONE);
        }
        DUE.is("BAD", PieceRow.BAD, -1);
        DUE.is("NONE", PieceRow.NONE, -2);
        DUE.is("FULL", PieceRow.FULL, -3);
    }
}
