import java.util.Arrays;

/** Packed rows made by hand, bit by bit, and what reading them must answer. */
final class PackedRows {
    static final byte[] NOTHING = {};
    private static final int FAULT = -12;
    private static final int[] ORDER = {
        16, 17, 18, 0, 8, 7, 9, 6, 10, 5, 11, 4, 12, 3, 13, 2, 14, 1, 15
    };

    /** Lengths for the 19 that give eight of them codes of three bits. */
    static final int[] EIGHT = new int[19];
    private static final String[] EIGHT_CODES;

    static {
        for (int s : new int[] {0, 1, 2, 3, 8, 16, 17, 18}) {
            EIGHT[s] = 3;
        }
        EIGHT_CODES = Model.codes(EIGHT);
    }

    private final Due due;

    PackedRows(Due due) {
        this.due = due;
    }

    /** A packed row alone in the image must hold just these bytes. */
    void holds(String what, byte[] packed, byte[] held) {
        Run x = Images.laid(Images.packedPiece(packed));
        due.is(what + ": read()", x.read(), held.length);
        due.is(what + ": size(1)", x.size(1), held.length);
        due.is(what + ": size(2)", x.size(2), 1);
        int step = 1 + held.length / 40;
        for (int i = 0; i < held.length; i += step) {
            due.is(what + ": byteAt(" + i + ")", x.byteAt(i), held[i] & 255);
        }
        int end = held.length - 1;
        due.is(what + ": byteAt(" + end + ")", x.byteAt(end), held[end] & 255);
        due.is(what + ": byteAt behind", x.byteAt(held.length), PieceRow.NONE);
    }

    void faults(String what, byte[] packed) {
        Run x = Images.laid(Images.packedPiece(packed));
        due.is(what + ": read()", x.read(), FAULT);
        due.is(what + ": size(1)", x.size(1), 0);
        due.is(what + ": size(2)", x.size(2), 0);
        due.is(what + ": byteAt(0)", x.byteAt(0), PieceRow.NONE);
        due.is(what + ": start(0)", x.start(0), PieceRow.NONE);
    }

    void holds(String what, Bits parts, byte[] held) {
        holds(what, Images.packed(120, 156, parts.bytes(), held), held);
    }

    /** A fault, though the check is the one of these bytes, or of those, which one may take it for. */
    void faults(String what, Bits parts, byte[]... helds) {
        for (byte[] held : helds) {
            faults(what + ", as " + held.length + " bytes", Images.packed(120, 156, parts.bytes(), held));
        }
    }

    void either(String what, boolean holds, Bits parts, byte[] held) {
        if (holds) {
            holds(what, parts, held);
        } else {
            faults(what, parts, held);
        }
    }

    static Bits fixedPart(boolean last) {
        return new Bits().number(last ? 1 : 0, 1).number(1, 2);
    }

    static Bits fixedPart(boolean last, byte[] held) {
        Bits bits = fixedPart(last);
        for (byte b : held) {
            bits.code(Bits.fixed(b & 255));
        }
        return bits.code(Bits.fixed(256));
    }

    static Bits storedPart(Bits before, boolean last, byte[] held) {
        return storedPart(before, last, '0', held.length, 65535 - held.length, held);
    }

    static Bits storedPart(Bits before, boolean last, char fill, int n, int rest, byte[] held) {
        before.number(last ? 1 : 0, 1).number(0, 2).align(fill).number(n, 16).number(rest, 16);
        for (byte b : held) {
            before.number(b, 8);
        }
        return before;
    }

    /** The beginning of a made part, the last one, that tells all 19 lengths. */
    static Bits made(int h, int d, int[] nineteen) {
        return made(h, d, 15, nineteen);
    }

    static Bits made(int h, int d, int c, int[] nineteen) {
        Bits bits = new Bits().number(1, 1).number(2, 2).number(h, 5).number(d, 5).number(c, 4);
        for (int i = 0; i < c + 4; i++) {
            bits.number(nineteen[ORDER[i]], 3);
        }
        return bits;
    }

    /** Lengths by the codes of EIGHT; behind 16, 17 and 18 comes the number that they take. */
    static Bits told(Bits bits, int... told) {
        for (int i = 0; i < told.length; i++) {
            int s = told[i];
            bits.code(EIGHT_CODES[s]);
            if (s >= 16) {
                i++;
                bits.number(told[i], s == 16 ? 2 : s == 17 ? 3 : 7);
            }
        }
        return bits;
    }

    /** A made part that tells each length by its own code of four bits. */
    static Bits toldOneByOne(int[] symbols, int[] distances) {
        int[] nineteen = new int[19];
        for (int s = 0; s < 16; s++) {
            nineteen[s] = 4;
        }
        String[] codes = Model.codes(nineteen);
        Bits bits = made(symbols.length - 257, distances.length - 1, nineteen);
        for (int length : symbols) {
            bits.code(codes[length]);
        }
        for (int length : distances) {
            bits.code(codes[length]);
        }
        return bits;
    }

    /** Bytes stored, then three of them again from a distance. */
    static Bits match(byte[] before, int distance, int more) {
        Bits bits = storedPart(new Bits(), false, before).add(fixedPart(true));
        bits.code(Bits.fixed(257)).code(Bits.binary(distance, 5));
        int extra = distance < 30 ? Model.DISTANCE_EXTRA[distance] : 0;
        return bits.number(more, extra).code(Bits.fixed(256));
    }

    /** So many bytes more, each the one so far before. */
    static byte[] continued(byte[] before, int distance, int length) {
        byte[] all = Arrays.copyOf(before, before.length + length);
        for (int i = before.length; i < all.length; i++) {
            all[i] = all[i - distance];
        }
        return all;
    }

    /** So many bytes 3: some one by one, the rest by lengths of 258. */
    static Bits runPart(boolean last, int n) {
        Bits bits = fixedPart(last).code(Bits.fixed(3));
        int left = n - 1;
        for (; left % 258 != 0; left--) {
            bits.code(Bits.fixed(3));
        }
        for (; left > 0; left -= 258) {
            bits.code(Bits.fixed(285)).code("00000");
        }
        return bits.code(Bits.fixed(256));
    }

    /** Bytes of which hardly three come twice. */
    static byte[] mixed(int n) {
        byte[] bytes = new byte[n];
        for (int i = 0; i < n; i++) {
            bytes[i] = (byte) (i * i / 7 + i / 3);
        }
        return bytes;
    }
}
