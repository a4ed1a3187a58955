/** The lines that README.md gives as an example, with the answers that it tells. */
public final class ReadmeTest {
    public static void main(String[] args) {
        Due due = new Due();
        PieceRow row = new PieceRow();
        long first = row.reference();
        due.is("reference()", first, 0);
        due.is("put(0x0000000000636261L, 3)", row.put(0x0000000000636261L, 3), 3);
        due.is("fill(0, 65, 20000)", row.fill(0, 65, 20000), 20003);
        due.is("close()", row.close(), 3);
        due.is("read()", row.read(), 20003);
        due.is("byteAt(first)", row.byteAt(first), 97);
        due.is("start(1)", row.start(1), 51);
        due.is("patch(2, 0)", row.patch(2, 0), 120);
        due.is("read() of a piece that is no packed row", row.read(), -12);
        due.is("byteAt(first) behind a fault", row.byteAt(first), PieceRow.NONE);
        row.begin(true);
        due.is("reference() of a new row", row.reference(), 0);
        due.end();
    }
}
