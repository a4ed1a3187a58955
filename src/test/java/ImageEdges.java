import java.util.Arrays;

/** Promises 7 to 10: what the image tells, and how it is changed. */
final class ImageEdges {
    private static final int BAD = -1;
    private static final int NONE = -2;
    private static final int LEAST = Integer.MIN_VALUE;
    private static final int MOST = Integer.MAX_VALUE;
    private static final String SIZE = "How many bytes the image has (0), what was read (1); "
        + "how many pieces were read (2) (both 0 when there is none).";
    private static final String PATCH_REFUSED =
        "A byte of the image becomes b (its lowest eight bits): what it was. "
        + "BAD: the row is not closed; NONE: there is none.";
    private static final String CUT_REFUSED = "BAD: n is not 0 .. its bytes, or the row is not closed.";

    private final Due due;

    private ImageEdges(Due due) {
        this.due = due;
    }

    static void all(Due due) {
        ImageEdges edges = new ImageEdges(due);
        edges.sizeOfImage();
        edges.sizeOfWhatWasRead();
        edges.sizeBad();
        edges.word();
        edges.wordBehindTheEnd();
        edges.wordOfNone();
        edges.patch();
        edges.patchNotClosed();
        edges.patchOfNone();
        edges.cut();
        edges.cutBad();
        edges.cutNotClosed();
    }

    private void sizeOfImage() {
        due.by(SIZE);
        Run x = RowEdges.plainRow();
        due.is("size(0) of none", x.size(0), 0);
        x.fill(0, 9, 8191);
        due.is("size(0), no piece closed", x.size(0), 0);
        x.fill(0, 9, 20000 - 8191);
        due.is("size(0), two pieces closed", x.size(0), 2 * 8194);
        x.close();
        due.is("size(0), closed", x.size(0), 20006);
        x.cut(7);
        due.is("size(0), cut", x.size(0), 7);
        x.cut(0);
        due.is("size(0), all cut", x.size(0), 0);
        x.begin(true);
        x.fill(1, 9, 65536);
        due.is("size(0) of the longest", x.size(0), 65552);
    }

    private void sizeOfWhatWasRead() {
        due.by(SIZE);
        Run x = new Run();
        sizes(x, "new", 0, 0);
        x.fill(0, 9, 65536);
        x.close();
        sizes(x, "before read()", 0, 0);
        x.read();
        sizes(x, "eight pieces", 65536, 8);
        x.cut(x.start(1));
        sizes(x, "cut, not read", 65536, 8);
        x.read();
        sizes(x, "one piece", 8192, 1);
        x.cut(0);
        x.read();
        sizes(x, "a row of none", 0, 0);
        x.begin(true);
        x.put(1, 1);
        x.close();
        x.read();
        sizes(x, "one byte", 1, 1);
        x.patch(0, 0);
        x.read();
        sizes(x, "a fault in a head", 0, 0);
        x.patch(0, 1);
        x.read();
        sizes(x, "mended", 1, 1);
        x.patch(1, 0);
        x.read();
        sizes(x, "a fault in a piece", 0, 0);
    }

    private void sizes(Run x, String what, int bytes, int pieces) {
        due.is(what + ": size(1)", x.size(1), bytes);
        due.is(what + ": size(2)", x.size(2), pieces);
    }

    private void sizeBad() {
        due.by("BAD: what is none of these.");
        Run x = new Content().fill(2, 3, 20000).closed(false);
        x.read();
        for (int what : new int[] {LEAST, -2, -1, 3, 4, 256, 65536, MOST}) {
            due.is("size(" + what + ")", x.size(what), BAD);
            due.is("size(" + what + ") of a new one", new PieceRow().size(what), BAD);
        }
    }

    private void word() {
        due.by("Eight bytes of the image from 8 i on, the first one lowest, 0 behind its end;");
        Run x = RowEdges.plainRow();
        x.put(0x8877665544332211L, 8);
        x.put(0xffeeddccbbaa99L, 7);
        due.is("word(0), nothing closed", x.word(0), 0);
        x.close();
        due.is("word(0)", x.word(0), 0x665544332211800fL);
        due.is("word(1)", x.word(1), 0xeeddccbbaa998877L);
        x.patch(8, 0x12);
        due.is("word(1), patched", x.word(1), 0xeeddccbbaa998812L);
        x.begin(true);
        x.fill(0, 255, 65536);
        due.is("word(8193), the last one, not closed", x.word(8193), -1);
        due.is("word(8194)", x.word(8194), 0);
        due.is("word(1024)", x.word(1024), 0xffffffffa000ffffL);
    }

    private void wordBehindTheEnd() {
        due.by("Eight bytes of the image from 8 i on, the first one lowest, 0 behind its end;");
        Run x = RowEdges.plainRow();
        x.fill(0, 255, 30);
        x.close();
        for (int n = 32; n >= 24; n--) {
            x.cut(n);
            long want = n == 32 ? -1 : (1L << (8 * (n - 24))) - 1;
            due.is("word(3) of " + n + " bytes", x.word(3), want);
            due.is("word(2) of " + n + " bytes", x.word(2), -1);
        }
        x.cut(1);
        due.is("word(0) of one byte", x.word(0), 30);
    }

    private void wordOfNone() {
        due.by("0 when there are none.");
        // with 8 i as an int all of these but a few would come down to the image again
        int[] none = {
            -1, -2, -8194, LEAST, MOST, 1 << 29, (1 << 29) + 1, 1 << 30, -(1 << 29), -(1 << 29) + 1, 1 << 28,
            8194, 8195, 8249, 8250, 8251, 9000, 65536, LEAST + 1
        };
        Run x = RowEdges.plainRow();
        x.fill(0, 255, 65536);
        for (int i : none) {
            due.is("word(" + i + ")", x.word(i), 0);
            due.is("word(" + i + ") of a new one", new PieceRow().word(i), 0);
        }
        due.is("word(0) of a new one", new PieceRow().word(0), 0);
        x.close();
        x.cut(16);
        due.is("word(2), what was cut", x.word(2), 0);
        x.cut(0);
        due.is("word(0), all cut", x.word(0), 0);
    }

    private void patch() {
        due.by(PATCH_REFUSED);
        Run x = RowEdges.plainRow();
        x.fill(0, 200, 8192);
        x.close();
        due.is("patch(2, -256 + 17)", x.patch(2, -256 + 17), 200);
        due.is("patch(2, 511)", x.patch(2, 511), 17);
        due.is("patch(2, 256)", x.patch(2, 256), 255);
        due.is("patch(2, least)", x.patch(2, LEAST), 0);
        due.is("patch(2, most)", x.patch(2, MOST), 0);
        due.is("patch(2, 128)", x.patch(2, 128), 255);
        due.is("patch(2, -1)", x.patch(2, -1), 128);
        due.is("patch(8193, 1), the last", x.patch(8193, 1), 200);
        due.is("patch(8193, 2)", x.patch(8193, 2), 1);
        due.is("patch(0, 0), the first", x.patch(0, 0), 0);
        due.is("patch(1, 160)", x.patch(1, 160), 160);
        byte[] want = Images.plainPiece(Images.many(200, 8192));
        want[2] = -1;
        want[8193] = 2;
        due.is("the image differs from", Arrays.mismatch(x.image(), want), -1);
        due.is("size(0)", x.size(0), 8194);
        due.is("read()", x.read(), 8192);
        x.patch(2, 33);
        due.is("what was read stays", x.byteAt(0), 255);
        x.read();
        due.is("and is read anew", x.byteAt(0), 33);
    }

    private void patchNotClosed() {
        due.by(PATCH_REFUSED);
        Content[] rows = {new Content(), new Content().fill(2, 1, 8200), new Content().fill(2, 1, 65536)};
        for (Content row : rows) {
            for (int i : new int[] {0, 1, 5, -1, 70000, LEAST, MOST}) {
                due.is("patch(" + i + ", 9)", row.open(false).patch(i, 9), BAD);
            }
            RowEdges.changesNothing(due, "patch(0, 9)", row, false, y -> y.patch(0, 9));
        }
    }

    private void patchOfNone() {
        due.by(PATCH_REFUSED);
        due.is("patch(0, 0) of a row of none", new Content().closed(true).patch(0, 0), NONE);
        Content row = new Content().fill(0, 7, 8192);
        for (int i : new int[] {-1, 8194, 8195, 65536, LEAST, MOST, 1 << 16, -8193}) {
            due.is("patch(" + i + ", 9)", row.closed(true).patch(i, 9), NONE);
            RowEdges.changesNothing(due, "patch(" + i + ", 9)", row, true, y -> y.patch(i, 9));
        }
        Run x = row.closed(true);
        x.cut(8193);
        due.is("patch(8193, 1), what was cut", x.patch(8193, 1), NONE);
        due.is("patch(8192, 1)", x.patch(8192, 1), 7);
        x.cut(0);
        due.is("patch(0, 1), all cut", x.patch(0, 1), NONE);
    }

    private void cut() {
        due.by("The image keeps its first n bytes: how many went.");
        Run x = RowEdges.plainRow();
        x.fill(1, 5, 8200);
        x.close();
        byte[] image = x.image();
        due.is("read()", x.read(), 8200);
        int[] keeps = {8204, 8203, 8195, 8194, 100, 100, 1, 0, 0};
        int length = 8204;
        for (int n : keeps) {
            due.is("cut(" + n + ")", x.cut(n), length - n);
            length = n;
            due.is("size(0)", x.size(0), n);
            due.is("the image differs from", Arrays.mismatch(x.image(), Arrays.copyOf(image, n)), -1);
        }
        due.is("what was read stays", x.size(1), 8200);
        due.is("read() of none", x.read(), 0);
        x.begin(true);
        due.is("put behind it", x.put(1, 1), 1);
    }

    private void cutBad() {
        due.by(CUT_REFUSED);
        Content row = new Content().fill(0, 7, 8200);
        int bytes = row.closed(false).size(0);
        for (int n : new int[] {LEAST, -1, -65536, bytes + 1, 66000, 65536 + bytes, MOST}) {
            due.is("cut(" + n + ")", row.closed(false).cut(n), BAD);
            RowEdges.changesNothing(due, "cut(" + n + ")", row, true, y -> y.cut(n));
        }
        Run x = row.closed(false);
        due.is("cut(all)", x.cut(bytes), 0);
        due.is("cut(one less)", x.cut(bytes - 1), 1);
        due.is("cut(all) again", x.cut(bytes), BAD);
        due.is("cut(0)", x.cut(0), bytes - 1);
        due.is("cut(1)", x.cut(1), BAD);
        due.is("cut(0) of a row of none", new Content().closed(false).cut(0), 0);
        due.is("cut(1) of a row of none", new Content().closed(false).cut(1), BAD);
    }

    private void cutNotClosed() {
        due.by(CUT_REFUSED);
        Content[] rows = {new Content(), new Content().fill(2, 1, 8200), new Content().fill(2, 1, 65536)};
        for (Content row : rows) {
            for (int n : new int[] {0, 1, 100, -1, 70000}) {
                due.is("cut(" + n + ")", row.open(false).cut(n), BAD);
            }
            RowEdges.changesNothing(due, "cut(0)", row, false, y -> y.cut(0));
        }
    }
}
