import java.util.Arrays;

/** What a packed row is made of, and how it is read. */
final class PackedRowEdges {
    private static final byte[] NOTHING = PackedRows.NOTHING;
    private static final int[] EIGHT = PackedRows.EIGHT;

    private final Due due;
    private final PackedRows rows;

    private PackedRowEdges(Due due) {
        this.due = due;
        rows = new PackedRows(due);
    }

    static void all(Due due) {
        PackedRowEdges edges = new PackedRowEdges(due);
        edges.firstBytes();
        edges.firstBits();
        edges.bitsBeforeTheCheck();
        edges.check();
        edges.bits();
        edges.numbersAndCodes();
        edges.sorts();
        edges.stored();
        edges.fixed();
        edges.madeNumbers();
        edges.nineteen();
        edges.oneRowOfLengths();
        edges.lengths();
        edges.sixteen();
        edges.seventeen();
        edges.eighteen();
        edges.codesOfOneLength();
        edges.codesOfAllLengths();
        edges.noCode();
        edges.bytesAndEnd();
        edges.shortLengths();
        edges.longLengths();
        edges.longestLength();
        edges.distances();
        edges.bytesJustMade();
    }

    private static byte[] bytes(int... values) {
        return Images.bytes(values);
    }

    /** The packed row of a piece that the class has packed. */
    private static byte[] packedBy(Content content) {
        byte[] image = content.closed(false).image();
        return Arrays.copyOfRange(image, 2, image.length);
    }

    private void firstBytes() {
        due.by("A PACKED ROW of bytes: the bytes 120 and 156;");
        for (int n : new int[] {11, 100, 4096, 8192}) {
            byte[] packed = packedBy(new Content().fill(0, 9, n));
            due.is("the first byte of a row of " + n, packed[0] & 255, 120);
            due.is("the second", packed[1] & 255, 156);
        }
    }

    private void firstBits() {
        due.by("PARTS, of which just the last one has a first bit 1 (all others 0);");
        byte[] held = bytes(7, 200, 7);
        rows.holds("one part", PackedRows.fixedPart(true, held), held);
        Bits two = PackedRows.fixedPart(false, held).add(PackedRows.fixedPart(true, held));
        rows.holds("two parts", two, Images.joined(held, held));
        rows.faults("no last part", PackedRows.fixedPart(false, held), held);
        Bits more = PackedRows.fixedPart(true, held).align('0').add(PackedRows.fixedPart(true, held));
        rows.faults("a part behind the last one", more, Images.joined(held, held));
        Bits empties = new Bits();
        for (int i = 0; i < 2000; i++) {
            empties.add(PackedRows.fixedPart(false, NOTHING));
        }
        rows.holds("two thousand empty parts", empties.add(PackedRows.fixedPart(true, held)), held);
        for (int n : new int[] {4096, 4097, 8192}) {
            boolean one = new Content().fill(2, 9, n).parts().get(0).last;
            due.holds("the first part of " + n + " bytes is the last one", one == (n <= 4096));
        }
    }

    private void bitsBeforeTheCheck() {
        due.by("bits up to the end of a byte (whatever they are; 0 when a row is packed);");
        for (int k = 0; k < 8; k++) {
            // each of these bytes takes nine bits, so that all numbers of bits are left once
            byte[] held = Images.many(200 + k, k + 1);
            Bits parts = PackedRows.fixedPart(true, held);
            int left = -parts.length() & 7;
            for (int fill = 0; fill < 1 << left; fill += 1 + fill * 3) {
                Bits filled = PackedRows.fixedPart(true, held).number(fill, left);
                rows.holds(left + " bits left that are " + fill, filled, held);
            }
            Bits ones = PackedRows.fixedPart(true, held).align('1');
            rows.holds(left + " bits left that are 1", ones, held);
        }
        boolean[] reached = new boolean[8];
        for (int n = 30; n < 400; n++) {
            Content content = new Content().fill(0, n, n).fill(2, n, n);
            byte[] packed = packedBy(content);
            int end = content.parts().get(0).endBit;
            reached[-end & 7] = true;
            due.is("bits left when a row is packed", packed.length, (end + 7) / 8 + 4);
            due.is("they are 0", (packed[(end - 1) / 8] & 255) >> ((end - 1) % 8 + 1), 0);
        }
        for (int k = 0; k < 8; k++) {
            due.holds(k + " bits left were reached", reached[k]);
        }
    }

    private void check() {
        due.by("then the CHECK in four bytes, the highest first: 65536 b + a, a being 1 and all bytes that are packed, "
            + "b the sum of all values that a has behind each of them, both modulo 65521.");
        // a is 1 + 255 * 256 + the last byte: 65520, 65521 and 65522
        for (int last : new int[] {238, 239, 240, 241, 242}) {
            checkedBothWays("a at its modulo, " + last, new Content().fill(0, 255, 256).values(last));
        }
        for (int n : new int[] {257, 4096, 8191, 8192}) {
            checkedBothWays("both many times around, " + n, new Content().fill(0, 255, n));
        }
        checkedBothWays("bytes 0 alone", new Content().fill(0, 0, 8192));
        checkedBothWays("bytes 128", new Content().fill(0, 128, 1000));
        // the first of 300 bytes counts 300 times, the last one once: b is 300 + 65100 + the last byte
        for (int last : new int[] {119, 120, 121, 122, 123}) {
            checkedBothWays("b at its modulo, " + last, new Content().values(217).fill(0, 0, 298).values(last));
        }
        byte[] row = packedBy(new Content().values(1, 2).fill(0, 0, 20));
        byte[] four = Arrays.copyOfRange(row, row.length - 4, row.length);
        // a is 2 behind the first byte, and 4 behind each of the 21 others
        due.is("the check of 1, 2 and twenty 0", Arrays.toString(four), Arrays.toString(bytes(0, 86, 0, 4)));
    }

    private void checkedBothWays(String what, Content content) {
        byte[] packed = packedBy(content);
        byte[] four = Arrays.copyOfRange(packed, packed.length - 4, packed.length);
        due.is(what, Arrays.toString(four), Arrays.toString(Images.check(content.row())));
        rows.holds(what + ", read", packed, content.row());
    }

    private void bits() {
        due.by("BITS of a row are read from its first byte on, each byte from its lowest bit.");
        // 1: the last part; 10: fixed; 00110001 00110010: 1 and 2; 0000000: the end; five bits 0
        byte[] parts = bytes(0b01100011, 0b01100100, 0b00000010, 0b00000000);
        rows.holds("1 and 2 by hand", Images.packed(120, 156, parts, bytes(1, 2)), bytes(1, 2));
        byte[] packed = packedBy(new Content().fill(0, 65, 11));
        // 1 10, 01110001: 65, 0001000: the length 10, 00000: the distance 1, 0000000: the end
        byte[] want = bytes(120, 156, 0b01110011, 0b01000100, 0, 0);
        due.is("eleven times 65", Arrays.toString(Arrays.copyOf(packed, 6)), Arrays.toString(want));
    }

    private void numbersAndCodes() {
        due.by("A NUMBER of k bits has its lowest bit first; a CODE its highest bit first.");
        byte[] before = PackedRows.mixed(40);
        // 269 takes two bits and begins at 19; distance 9 takes three and begins at 25
        for (int moreLength = 0; moreLength < 4; moreLength++) {
            for (int moreDistance = 0; moreDistance < 8; moreDistance++) {
                Bits bits = PackedRows.storedPart(new Bits(), false, before).add(PackedRows.fixedPart(true));
                bits.code("0001101").code(moreLength % 2 + "" + moreLength / 2).code("01001");
                bits.code(moreDistance % 2 + "" + moreDistance / 2 % 2 + "" + moreDistance / 4).code("0000000");
                byte[] held = PackedRows.continued(before, 25 + moreDistance, 19 + moreLength);
                rows.holds(19 + moreLength + " bytes from " + (25 + moreDistance), bits, held);
            }
        }
        for (int distance = 25; distance < 33; distance++) {
            Content content = new Content().bytes(Arrays.copyOf(before, distance)).bytes(
                Arrays.copyOf(PackedRows.mixed(40), 20)).values(250, 251).fill(0, 0, 50);
            due.holds("20 bytes from " + distance + " when packed",
                content.parts().get(0).tokens.contains("20@" + distance));
        }
    }

    private void sorts() {
        due.by("Behind the first bit of a part comes a number of 2 bits, its SORT:");
        byte[] held = bytes(65, 65);
        for (int last = 0; last < 2; last++) {
            byte[] all = last == 1 ? held : Images.joined(held, held);
            Bits rest = last == 1 ? new Bits() : PackedRows.fixedPart(true, held);
            Bits stored = new Bits().code(last + "00").align('0').number(2, 16).number(65533, 16);
            rows.holds("sort 00, last " + last, stored.number(65, 8).number(65, 8).add(rest), all);
            Bits fixed = new Bits().code(last + "10").code("0111000101110001").code("0000000");
            rows.holds("sort 10, last " + last, fixed.add(rest), all);
        }
        Bits made = new Bits().code("101");
        rows.holds("sort 01", made.add(afterSort(aAndEnd(0).code("001"))), held);
    }

    /** A part's bits without the first three. */
    private static Bits afterSort(Bits part) {
        return part.from(3);
    }

    /** Of a made part: 65 has the code 0, 256 the code 1, and there are no distances. */
    private static Bits aAndEnd(int d) {
        Bits bits = PackedRows.told(PackedRows.made(0, d, EIGHT), 18, 54, 1, 18, 127, 18, 41, 1);
        for (int i = 0; i <= d; i++) {
            PackedRows.told(bits, 0);
        }
        return bits;
    }

    private void stored() {
        due.by("STORED (0): bits up to the end of the byte (whatever they are), a number n of 16 bits, "
            + "65535 - n in 16 bits, n bytes.");
        byte[] held = bytes(5, 0, 255);
        rows.holds("three", PackedRows.storedPart(new Bits(), true, held), held);
        rows.holds("behind bits that are 1",
            PackedRows.storedPart(new Bits(), true, '1', 3, 65532, held), held);
        for (int k = 0; k < 8; k++) {
            byte[] first = Images.many(222, k + 1);
            for (char fill : new char[] {'0', '1'}) {
                Bits bits = PackedRows.fixedPart(false, first);
                int left = -(bits.length() + 3) & 7;
                PackedRows.storedPart(bits, true, fill, 3, 65532, held);
                rows.holds(left + " bits left that are " + fill, bits, Images.joined(first, held));
            }
        }
        Bits none = PackedRows.storedPart(new Bits(), false, NOTHING);
        rows.holds("none, then three", PackedRows.storedPart(none, true, held), held);
        Bits noneAtTheEnd = PackedRows.fixedPart(false, held);
        rows.holds("three, then none", PackedRows.storedPart(noneAtTheEnd, true, NOTHING), held);
        for (int n : new int[] {1, 255, 256, 257, 3700}) {
            byte[] some = PackedRows.mixed(n);
            rows.holds(n + " bytes", PackedRows.storedPart(new Bits(), true, some), some);
        }
        boolean[] reached = new boolean[8];
        for (int k = 0; k < 60; k++) {
            storedWhenPacked(k, reached);
        }
        for (int k = 0; k < 8; k++) {
            due.holds(k + " bits left were reached when packed", reached[k]);
        }
    }

    /** A second part that can't be packed behind a first one that can. */
    private void storedWhenPacked(int k, boolean[] reached) {
        Content content = new Content().fill(0, 7, 4096 - k).fill(1, k, k + 1).fill(1, 5, 999);
        byte[] packed = packedBy(content);
        Part part = content.parts().get(1);
        int at = (part.firstBit + 3 + 7) / 8;
        reached[8 * at - part.firstBit - 3] = true;
        for (int bit = part.firstBit + 3; bit < 8 * at; bit++) {
            due.is("a bit up to the end of the byte", packed[bit / 8] >> (bit % 8) & 1, 0);
        }
        byte[] want = Images.joined(bytes(1000, 1000 >> 8, 64535, 64535 >> 8),
            Arrays.copyOfRange(content.row(), 4096, 5096));
        due.is("both numbers and the bytes differ from",
            Arrays.mismatch(Arrays.copyOfRange(packed, at, packed.length - 4), want), -1);
    }

    private void fixed() {
        due.by("FIXED (1): symbols; their codes have these lengths: symbols 0 .. 143 8 bits, 144 .. 255 9, "
            + "256 .. 279 7, 280 .. 287 8; distances 0 .. 31 5 bits.");
        String[] codes = new String[288];
        codes[0] = "00110000";
        codes[143] = "10111111";
        codes[144] = "110010000";
        codes[255] = "111111111";
        codes[257] = "0000001";
        codes[279] = "0010111";
        codes[280] = "11000000";
        codes[285] = "11000101";
        for (int s : new int[] {0, 143, 144, 255}) {
            Bits bits = new Bits().code("110").code(codes[s]).code("0000000");
            rows.holds("symbol " + s, bits, bytes(s));
        }
        int[] bases = {3, 99, 115, 258};
        int i = 0;
        for (int s : new int[] {257, 279, 280, 285}) {
            Bits bits = new Bits().code("110").code(codes[0]).code(codes[s]);
            bits.number(0, Model.LENGTH_EXTRA[s - 257]).code("00000").code("0000000");
            rows.holds("symbol " + s, bits, Images.many(0, 1 + bases[i]));
            i++;
        }
        byte[] all = new byte[256];
        for (int b = 0; b < 256; b++) {
            all[b] = (byte) b;
        }
        rows.holds("all bytes", PackedRows.fixedPart(true, all), all);
        for (int d = 0; d < 22; d++) {
            byte[] before = PackedRows.mixed(Model.DISTANCE_BASE[d]);
            rows.holds("distance symbol " + d, PackedRows.match(before, d, 0),
                PackedRows.continued(before, before.length, 3));
        }
        byte[] packed = packedBy(new Content().values(0, 143, 144, 255).fill(0, 0, 20));
        Bits want = new Bits().code("110").code(codes[0]).code(codes[143]).code(codes[144]).code(codes[255]);
        want.code(codes[0]).code("0001101").number(0, 2).code("00000").code("0000000");
        due.is("when packed", Arrays.toString(Arrays.copyOfRange(packed, 2, packed.length - 4)),
            Arrays.toString(want.bytes()));
    }

    private void madeNumbers() {
        due.by("MADE (2): h, a number of 5 bits, d of 5, c of 4;");
        byte[] held = bytes(65, 65);
        for (int d = 0; d < 10; d++) {
            rows.holds("d " + d, aAndEnd(d).code("001"), held);
        }
        for (int h = 1; h < 30; h++) {
            Bits bits = PackedRows.told(PackedRows.made(h, 0, EIGHT), 18, 54, 1, 18, 127, 18, 41, 1);
            for (int i = 0; i <= h; i++) {
                PackedRows.told(bits, 0);
            }
            rows.holds("h " + h, bits.code("001"), held);
        }
        Bits byHand = new Bits().code("101").code("10000").code("01000").code("1111");
        Bits rest = PackedRows.made(1, 2, EIGHT).from(3 + 14);
        PackedRows.told(byHand.add(rest), 18, 54, 1, 18, 127, 18, 41, 1, 0, 17, 0);
        rows.holds("1, 2 and 15 by hand", byHand.code("001"), held);
    }

    private void nineteen() {
        due.by("c + 4 numbers of 3 bits, the lengths of codes for 16 17 18 0 8 7 9 6 10 5 11 4 12 3 13 2 14 1 15, "
            + "in this order (those that are left have 0);");
        // of the last 2 ^ k symbols each has the length k; the last number told is that of k
        int[] least = {0, 14, 12, 10, 8, 6, 4, 2, 1};
        for (int k = 1; k <= 8; k++) {
            for (int c = least[k]; c < 16; c++) {
                Bits bits = sameLengths(k, c);
                bits.code(Bits.binary(0, k)).code(Bits.binary((1 << k) - 1, k));
                rows.holds("c " + c + " and the length " + k, bits, bytes(257 - (1 << k)));
            }
        }
        // with c = 0 no length but 0 can be told, so that 256 has no code
        int[] zeros = new int[19];
        zeros[0] = 1;
        zeros[18] = 1;
        Bits bits = PackedRows.storedPart(new Bits(), false, bytes(1)).add(PackedRows.made(0, 0, 0, zeros));
        rows.faults("c 0", bits.number(0, 258 + 1), bytes(1));
        for (int longest = 2; longest <= 15; longest++) {
            lengthsUpTo(longest);
        }
    }

    private static Bits sameLengths(int k, int c) {
        int[] nineteen = new int[19];
        nineteen[0] = 1;
        nineteen[k] = 1;
        Bits bits = PackedRows.made(0, 0, c, nineteen);
        for (int s = 0; s < 257; s++) {
            bits.code(s < 257 - (1 << k) ? "0" : "1");
        }
        return bits.code("0");
    }

    /** The lengths 1 .. longest come each, so that a wrong place in the order gives a wrong code. */
    private void lengthsUpTo(int longest) {
        int[] symbols = new int[257];
        int[] counts = new int[19];
        counts[0] = 1;
        for (int i = 1; i <= longest; i++) {
            symbols[i] = i;
            counts[i] = 1;
        }
        symbols[256] = longest;
        int[] nineteen = Model.lengths(counts, 7);
        String[] told = Model.codes(nineteen);
        Bits bits = PackedRows.made(0, 0, longest < 15 ? 14 : 15, nineteen);
        for (int length : symbols) {
            bits.code(told[length]);
        }
        bits.code(told[0]);
        String[] codes = Model.codes(symbols);
        byte[] held = new byte[longest];
        for (int i = 1; i <= longest; i++) {
            held[i - 1] = (byte) i;
            bits.code(codes[i]);
        }
        rows.holds("lengths up to " + longest, bits.code(codes[256]), held);
    }

    private void oneRowOfLengths() {
        due.by("then, by these codes, h + 257 lengths of the codes for symbols and d + 1 for distances, one row:");
        byte[] held = bytes(65, 65);
        rows.holds("a 16 over the border", PackedRows.told(PackedRows.made(0, 3, EIGHT),
            18, 53, 2, 2, 2, 18, 127, 18, 40, 2, 16, 1).code("01").code("11"), bytes(65));
        rows.holds("an 18 over the border", PackedRows.told(PackedRows.made(29, 29, EIGHT),
            18, 54, 1, 18, 127, 18, 41, 1, 18, 48).code("001"), held);
        rows.holds("a 17 over the border", PackedRows.told(PackedRows.made(3, 4, EIGHT),
            18, 54, 1, 18, 127, 18, 41, 1, 17, 5).code("001"), held);
        // the length of distance 0 comes right behind the one of 256, or of 257
        Bits first = PackedRows.told(PackedRows.made(1, 0, EIGHT), 18, 54, 1, 18, 127, 18, 41, 2, 2, 1);
        rows.holds("one distance behind 257", first.code("0").code("11").code("0").code("10"), Images.many(65, 4));
    }

    private void lengths() {
        due.by("0 .. 15 is a length;");
        int[] symbols = new int[286];
        int[] distances = new int[16];
        for (int i = 0; i < 16; i++) {
            distances[i] = i == 0 ? 15 : 16 - i;
        }
        for (int i = 0; i < 14; i++) {
            symbols[3 * i] = i + 1;
        }
        symbols[256] = 15;
        symbols[285] = 15;
        String[] symbolCodes = Model.codes(symbols);
        String[] distanceCodes = Model.codes(distances);
        Bits bits = PackedRows.toldOneByOne(symbols, distances);
        byte[] held = new byte[14];
        for (int i = 0; i < 14; i++) {
            held[i] = (byte) (3 * i);
            bits.code(symbolCodes[3 * i]);
        }
        for (int d = 0; d < 16; d++) {
            bits.code(symbolCodes[285]).code(distanceCodes[d]).number(0, Model.DISTANCE_EXTRA[d]);
            held = PackedRows.continued(held, Model.DISTANCE_BASE[d], 258);
        }
        rows.holds("lengths 0 to 15", bits.code(symbolCodes[256]), held);
    }

    private void sixteen() {
        due.by("16 the one before 3 times more, and as often again as a number of 2 bits tells;");
        byte[] held = bytes(65, 65);
        for (int more = 0; more < 4; more++) {
            // the 0 and those by 16, then as many as are left up to 65
            rows.holds("a 16 behind a 0, and " + more, PackedRows.told(PackedRows.made(0, 0, EIGHT),
                0, 16, more, 18, 65 - 11 - 4 - more, 1, 18, 127, 18, 41, 1, 0).code("001"), held);
        }
        // 65 .. 68 of length 3 by one and a 16; 69 .. 71 too; 256 of length 3
        Bits bits = PackedRows.told(PackedRows.made(0, 0, EIGHT),
            18, 54, 3, 16, 0, 3, 3, 3, 18, 127, 18, 35, 3, 0);
        rows.holds("a 16 behind a 3", bits.code("011").code("110").code("111"), bytes(68, 71));
        bits = PackedRows.told(PackedRows.made(0, 0, EIGHT), 18, 54, 3, 16, 3, 18, 127, 18, 35, 3, 0);
        rows.holds("a 16 of six", bits.code("110").code("000").code("111"), bytes(71, 65));
        bits = PackedRows.told(PackedRows.made(0, 0, EIGHT), 18, 54, 3, 16, 0, 16, 0, 18, 127, 18, 35, 3, 0);
        rows.holds("a 16 behind a 16", bits.code("110").code("000").code("111"), bytes(71, 65));
        bits = PackedRows.told(PackedRows.made(0, 3, EIGHT), 18, 54, 1, 18, 127, 18, 40, 0, 1, 0, 16, 0);
        rows.holds("a 16 of zeros behind a distance", bits.code("001"), held);
        bits = PackedRows.told(PackedRows.made(0, 9, EIGHT), 18, 54, 1, 18, 127, 18, 41, 1, 17, 1, 16, 3);
        rows.holds("a 16 behind a 17", bits.code("001"), held);
    }

    private void seventeen() {
        due.by("17 the length 0, 3 times and as often more as 3 bits tell;");
        byte[] held = bytes(65, 65);
        for (int more = 0; more < 8; more++) {
            rows.holds("a 17 and " + more, PackedRows.told(PackedRows.made(0, 0, EIGHT),
                17, more, 18, 65 - 11 - 3 - more, 1, 18, 127, 18, 41, 1, 0).code("001"), held);
        }
        rows.holds("a 17 behind a length", PackedRows.told(PackedRows.made(0, 2, EIGHT),
            18, 54, 1, 18, 127, 18, 41, 1, 17, 0).code("001"), held);
    }

    private void eighteen() {
        due.by("18 likewise 11 times and 7 bits. Then symbols.");
        byte[] held = bytes(65);
        // a letter as far as an 18 goes, and 256 behind two more
        for (int more = 0; more < 128; more += more == 0 ? 1 : more == 1 ? 125 : 1) {
            int letter = 11 + more;
            int rest = 256 - letter - 1;
            int first = Math.min(138, rest - 11);
            rows.holds("an 18 and " + more, PackedRows.told(PackedRows.made(0, 0, EIGHT),
                18, more, 1, 18, first - 11, 18, rest - first - 11, 1, 0).code("01"), bytes(letter));
        }
        rows.holds("an 18 behind a length", PackedRows.told(PackedRows.made(0, 10, EIGHT),
            18, 54, 1, 18, 127, 18, 41, 1, 18, 0).code("01"), held);
    }

    private void codesOfOneLength() {
        due.by("CODES: of those of one length those of lesser symbols come first, and as numbers they go up by one;");
        int[] symbols = new int[257];
        int[] used = {3, 9, 10, 77, 200, 254, 255, 256};
        for (int s : used) {
            symbols[s] = 3;
        }
        Bits bits = PackedRows.toldOneByOne(symbols, new int[] {0});
        String[] codes = {"000", "001", "010", "011", "100", "101", "110", "111"};
        for (int i = 6; i >= 0; i--) {
            bits.code(codes[i]);
        }
        rows.holds("seven bytes", bits.code("111"), bytes(255, 254, 200, 77, 10, 9, 3));
    }

    private void codesOfAllLengths() {
        due.by("the first one of a length is twice what would follow the last one of the length before "
            + "(0 for the first length).");
        int[] symbols = new int[257];
        symbols[50] = 2;
        symbols[40] = 2;
        symbols[30] = 4;
        symbols[20] = 4;
        symbols[256] = 4;
        symbols[10] = 4;
        symbols[60] = 2;
        // 40 00, 50 01, 60 10; none of length 3; 10 1100, 20 1101, 30 1110, 256 1111
        Bits bits = PackedRows.toldOneByOne(symbols, new int[] {0});
        bits.code("1110").code("10").code("00").code("1100").code("01").code("1101").code("1111");
        rows.holds("lengths 2 and 4", bits, bytes(30, 60, 40, 10, 50, 20));
        symbols = new int[257];
        symbols[7] = 1;
        symbols[5] = 2;
        symbols[9] = 3;
        symbols[256] = 3;
        bits = PackedRows.toldOneByOne(symbols, new int[] {0});
        bits.code("0").code("10").code("110").code("0").code("111");
        rows.holds("lengths 1, 2 and 3", bits, bytes(7, 5, 9, 7));
    }

    private void noCode() {
        due.by("A symbol with the length 0 has no code.");
        int[] symbols = new int[257];
        symbols[0] = 1;
        symbols[256] = 1;
        Bits bits = PackedRows.toldOneByOne(symbols, new int[] {0});
        rows.holds("0 and 256 alone", bits.code("0001"), bytes(0, 0, 0));
        symbols = new int[258];
        symbols[5] = 1;
        symbols[256] = 2;
        symbols[257] = 2;
        // distance 1, the second one, has the only code
        bits = PackedRows.toldOneByOne(symbols, new int[] {0, 1});
        rows.holds("the second distance alone", bits.code("00").code("11").code("0").code("10"), Images.many(5, 5));
    }

    private void bytesAndEnd() {
        due.by("SYMBOLS: 0 .. 255 is that byte; 256 ends the part;");
        for (int b = 0; b < 256; b++) {
            rows.holds("byte " + b, PackedRows.fixedPart(true, bytes(b)), bytes(b));
        }
        Bits bits = PackedRows.fixedPart(true, bytes(1, 2)).code(Bits.fixed(3));
        rows.faults("a symbol behind the end", bits, bytes(1, 2));
        rows.faults("a symbol behind the end, checked", bits, bytes(1, 2, 3));
        rows.holds("an end alone before the last part",
            PackedRows.fixedPart(false, NOTHING).add(PackedRows.fixedPart(true, bytes(9))), bytes(9));
    }

    private void lengthSymbol(int s, int base, int extra) {
        for (int more = 0; more < 1 << extra; more++) {
            Bits bits = PackedRows.fixedPart(true).code(Bits.fixed(9)).code(Bits.fixed(s)).number(more, extra);
            bits.code("00000").code(Bits.fixed(256));
            rows.holds("symbol " + s + " and " + more, bits, Images.many(9, 1 + base + more));
        }
    }

    private void shortLengths() {
        due.by("s from 257 to 285 is a LENGTH: its base and as much as a number of e bits behind it tells: "
            + "for 257 .. 264 the base s - 254 and e = 0;");
        for (int s = 257; s <= 264; s++) {
            lengthSymbol(s, s - 254, 0);
        }
    }

    private void longLengths() {
        due.by("from 265 to 284 e = (s - 261) / 4 and the base 3 + (4 + (s - 261) % 4) shifted left by e;");
        int[] bases = {
            11, 13, 15, 17, 19, 23, 27, 31, 35, 43, 51, 59, 67, 83, 99, 115, 131, 163, 195, 227
        };
        for (int s = 265; s <= 284; s++) {
            lengthSymbol(s, bases[s - 265], 1 + (s - 265) / 4);
        }
        // a length from each symbol's first to its last one, when packed
        for (int length = 3; length <= 258; length++) {
            Content content = new Content().fill(0, 9, 1 + length).text("xy").fill(0, 1, 30);
            due.is(length + " when packed", content.parts().get(0).tokens.get(1), length + "@1");
        }
    }

    private void longestLength() {
        due.by("285 is 258, e = 0 (a length of 258 is packed so, not by 284).");
        lengthSymbol(285, 258, 0);
        Bits bits = PackedRows.fixedPart(true).code(Bits.fixed(9)).code(Bits.fixed(284)).number(31, 5);
        rows.holds("258 by 284, read", bits.code("00000").code(Bits.fixed(256)), Images.many(9, 259));
        Part part = new Content().fill(0, 9, 259).parts().get(0);
        due.is("259 bytes", part.tokens(), "9 258@1");
        due.is("285 comes once", part.symbolCounts[285], 1);
        due.is("284 does not", part.symbolCounts[284], 0);
        part = new Content().fill(0, 9, 258).parts().get(0);
        due.is("258 bytes", part.tokens(), "9 257@1");
        due.is("284 comes once", part.symbolCounts[284], 1);
        due.is("285 does not", part.symbolCounts[285], 0);
    }

    private void distances() {
        due.by("Then comes the code of a DISTANCE d: for 0 .. 3 d + 1; otherwise e = d / 2 - 1, "
            + "1 + (2 + d % 2) shifted left by e, and a number of e bits more.");
        int[] bases = {
            1, 2, 3, 4, 5, 7, 9, 13, 17, 25, 33, 49, 65, 97, 129, 193, 257, 385, 513, 769, 1025, 1537, 2049, 3073
        };
        byte[] held = PackedRows.mixed(3800);
        for (int d = 0; d < bases.length; d++) {
            int extra = d < 4 ? 0 : d / 2 - 1;
            for (int more : new int[] {0, 1, (1 << extra) / 2, (1 << extra) - 1}) {
                int distance = bases[d] + more;
                if (more < 1 << extra && distance <= held.length) {
                    byte[] before = Arrays.copyOf(held, distance);
                    rows.holds("distance " + distance, PackedRows.match(before, d, more),
                        PackedRows.continued(before, distance, 3));
                }
            }
        }
        farDistances();
        packedDistances();
    }

    /** What is far before is made by lengths, so that it takes few bytes. */
    private void farDistances() {
        int[] bases = {3073, 4097, 6145};
        for (int i = 0; i < 3; i++) {
            int d = 23 + i;
            for (int more : new int[] {0, 1, 1000, (1 << d / 2 - 1) - 1}) {
                int distance = bases[i] + more;
                if (distance > 8189) {
                    continue;
                }
                Bits bits = PackedRows.fixedPart(false, bytes(1, 2, 4)).add(PackedRows.runPart(false, distance - 3));
                bits.add(PackedRows.fixedPart(true)).code(Bits.fixed(257)).code(Bits.binary(d, 5));
                bits.number(more, d / 2 - 1).code(Bits.fixed(256));
                byte[] before = Images.joined(bytes(1, 2, 4), Images.many(3, distance - 3));
                rows.holds("distance " + distance, bits, PackedRows.continued(before, distance, 3));
            }
        }
    }

    private void packedDistances() {
        int[] borders = {
            3, 4, 5, 6, 7, 8, 9, 12, 13, 16, 17, 24, 25, 32, 33, 48, 49, 64, 65, 96, 97, 128, 129, 192, 193, 256, 257,
            384, 385, 512, 513, 768, 769, 1024, 1025, 1536, 1537, 2048, 2049, 3072, 3073, 4096, 4097, 6144, 6145, 8188
        };
        for (int distance : borders) {
            Content content = new Content().text("abc");
            if (distance > 3) {
                content.fill(0, 1, distance - 3);
            }
            content.text("abc");
            if (distance < 40) {
                content.fill(0, 2, 60);
            }
            boolean there = false;
            for (Part part : content.parts()) {
                there |= part.tokens.contains("3@" + distance);
            }
            due.holds("3@" + distance + " when packed", there);
        }
        Part part = new Content().text("ababababab").fill(0, 1, 40).parts().get(0);
        due.is("distance 2 when packed", part.tokens(), "97 98 8@2 1 39@1");
    }

    private void bytesJustMade() {
        due.by("So many bytes follow that are those so far before, each (also those that are just being made).");
        for (int distance = 1; distance <= 5; distance++) {
            byte[] before = Arrays.copyOf(bytes(10, 20, 30, 40, 50), distance);
            Bits bits = PackedRows.fixedPart(true);
            for (byte b : before) {
                bits.code(Bits.fixed(b));
            }
            int d = Math.min(distance - 1, 4);
            bits.code(Bits.fixed(285)).code(Bits.binary(d, 5)).number(0, Model.DISTANCE_EXTRA[d]);
            rows.holds("258 bytes from " + distance, bits.code(Bits.fixed(256)),
                PackedRows.continued(before, distance, 258));
        }
    }
}
