/** Bits written by hand, highest first, to make rows that pack() never makes. */
final class BitRow {
    static final long BLOCK_MARK = 0x314159265359L;
    static final long END_MARK = 0x177245385090L;
    private final StringBuilder bits = new StringBuilder();

    int size() {
        return bits.length();
    }

    BitRow put(int width, long value) {
        for (int k = width - 1; k >= 0; k--) {
            bits.append((value >> k & 1) == 0 ? '0' : '1');
        }
        return this;
    }

    BitRow put(String more) {
        bits.append(more);
        return this;
    }

    BitRow putBytes(int... bytes) {
        for (int octet : bytes) {
            put(8, octet);
        }
        return this;
    }

    /** The bits as characters. */
    String text() {
        return bits.toString();
    }

    BitRow head(int level) {
        return put(8, 66).put(8, 90).put(8, 104).put(8, 48 + level);
    }

    BitRow last(long joined) {
        return put(48, END_MARK).put(32, joined).whole();
    }

    BitRow whole() {
        while (bits.length() % 8 != 0) {
            bits.append('0');
        }
        return this;
    }

    /** Whole bytes; 0s behind the last bit. */
    int[] bytes() {
        int[] bytes = new int[(bits.length() + 7) / 8];
        for (int k = 0; k < bits.length(); k++) {
            bytes[k / 8] |= (bits.charAt(k) - '0') << 7 - k % 8;
        }
        return bytes;
    }

    static int sum(int... bytes) {
        int s = -1;
        for (int b : bytes) {
            for (int k = 7; k >= 0; k--) {
                int top = s >>> 31 ^ b >> k & 1;
                s = s << 1 ^ (top == 0 ? 0 : 0x04C11DB7);
            }
        }
        return ~s;
    }
}
