/** Bits one behind the other, as a text of 0 and 1. */
final class Bits {
    private final StringBuilder text = new StringBuilder();

    Bits number(int value, int k) {
        for (int i = 0; i < k; i++) {
            text.append((value >> i & 1) == 1 ? '1' : '0');
        }
        return this;
    }

    /** A code, its highest bit first. */
    Bits code(String code) {
        text.append(code);
        return this;
    }

    Bits align(char with) {
        while (text.length() % 8 != 0) {
            text.append(with);
        }
        return this;
    }

    Bits add(Bits other) {
        text.append(other.text);
        return this;
    }

    /** All bits but the first ones. */
    Bits from(int first) {
        return new Bits().code(text.substring(first));
    }

    int length() {
        return text.length();
    }

    byte[] bytes() {
        byte[] bytes = new byte[(text.length() + 7) / 8];
        for (int i = 0; i < text.length(); i++) {
            if (text.charAt(i) == '1') {
                bytes[i / 8] |= (byte) (1 << (i % 8));
            }
        }
        return bytes;
    }

    /** The code of a symbol in a fixed part, written out from its four stretches. */
    static String fixed(int symbol) {
        if (symbol < 144) {
            return binary(48 + symbol, 8);
        }
        if (symbol < 256) {
            return binary(400 + symbol - 144, 9);
        }
        return symbol < 280 ? binary(symbol - 256, 7) : binary(192 + symbol - 280, 8);
    }

    static String binary(int value, int k) {
        StringBuilder digits = new StringBuilder();
        for (int i = k - 1; i >= 0; i--) {
            digits.append((value >> i & 1) == 1 ? '1' : '0');
        }
        return digits.toString();
    }
}
