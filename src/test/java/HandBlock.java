import java.util.ArrayList;
import java.util.Arrays;
import java.util.List;

/** A BLOCK made by hand: every field can be set to what no packing makes. */
final class HandBlock {
    int sum;
    int bit;
    int origin;
    int[] signs;
    int tables = 2;
    int[] places = {0};
    int[][] lengths;
    int[] numbers;

    /** One byte 97: the SIGN 97, numbers A and THE LAST, whose codes are 0 and 11. */
    static HandBlock oneByte() {
        return ofSign(97, new int[] {0, 2}, 97);
    }

    /** Of one SIGN: codes A 0, B 10, THE LAST 11. */
    static HandBlock ofSign(int sign, int[] numbers, int... plain) {
        HandBlock made = new HandBlock();
        made.signs = new int[] {sign};
        made.lengths = new int[][] {{1, 2, 2}, {1, 2, 2}};
        made.numbers = numbers;
        made.sum = BitRow.sum(plain);
        return made;
    }

    /** Of the SIGNS 97 and 98: codes A 00, B 01, place one 10, THE LAST 11. */
    static HandBlock ofTwo(int[] numbers, int... plain) {
        HandBlock made = new HandBlock();
        made.signs = new int[] {97, 98};
        made.lengths = new int[][] {{2, 2, 2, 2}, {2, 2, 2, 2}};
        made.numbers = numbers;
        made.sum = BitRow.sum(plain);
        return made;
    }

    /** The bytes of a row that has these BLOCKS, and the JOINED SUM that it ought to have. */
    static int[] rowOf(int level, HandBlock... blocks) {
        BitRow row = new BitRow().head(level);
        int joined = 0;
        for (HandBlock block : blocks) {
            block.writeTo(row);
            joined = Integer.rotateLeft(joined, 1) ^ block.sum;
        }
        return row.last(joined).bytes();
    }

    HandBlock choices(int choices) {
        places = new int[choices];
        return this;
    }

    HandBlock origin(int at) {
        origin = at;
        return this;
    }

    HandBlock sum(int other) {
        sum = other;
        return this;
    }

    /** A run of so many of the only SIGN, in digits, and THE LAST. */
    HandBlock numbersFor(int run) {
        StringBuilder digits = new StringBuilder();
        for (int left = run; left > 0; left = (left - 1) / 2) {
            digits.append((left - 1) % 2);
        }
        numbers = digits.append(2).chars().map(digit -> digit - '0').toArray();
        return this;
    }

    BitRow writeTo(BitRow row) {
        writeHead(row);
        writeMap(row);
        writeChoices(row);
        writeLengths(row);
        return writeCodes(row);
    }

    BitRow writeHead(BitRow row) {
        return row.put(48, BitRow.BLOCK_MARK).put(32, sum).put(1, bit).put(24, origin);
    }

    BitRow writeMap(BitRow row) {
        int[] sixteens = new int[16];
        int all = 0;
        for (int sign : signs) {
            sixteens[sign / 16] |= 1 << 15 - sign % 16;
            all |= 1 << 15 - sign / 16;
        }
        row.put(16, all);
        for (int sixteen : sixteens) {
            if (sixteen != 0) {
                row.put(16, sixteen);
            }
        }
        return row;
    }

    BitRow writeChoices(BitRow row) {
        row.put(3, tables).put(15, places.length);
        for (int place : places) {
            row.put("1".repeat(place)).put("0");
        }
        return row;
    }

    BitRow writeLengths(BitRow row) {
        for (int[] table : lengths) {
            int one = table[0];
            row.put(5, one);
            for (int due : table) {
                row.put((due > one ? "10" : "11").repeat(Math.abs(due - one))).put("0");
                one = due;
            }
        }
        return row;
    }

    /** Each fifty by the TABLE that was chosen. */
    BitRow writeCodes(BitRow row) {
        int[] chosen = chosen();
        for (int k = 0; k < numbers.length; k++) {
            row.put(code(lengths[chosen[k / 50]], numbers[k]));
        }
        return row;
    }

    /** The TABLES that the places tell. */
    int[] chosen() {
        List<Integer> front = new ArrayList<>();
        for (int t = 0; t < tables; t++) {
            front.add(t);
        }
        int[] chosen = new int[places.length];
        for (int k = 0; k < places.length; k++) {
            chosen[k] = front.remove(places[k]);
            front.add(0, chosen[k]);
        }
        return chosen;
    }

    static String code(int[] lengths, int number) {
        int first = 0;
        for (int n = 1; n < lengths[number]; n++) {
            int length = n;
            first = 2 * (first + (int) Arrays.stream(lengths).filter(l -> l == length).count());
        }
        for (int v = 0; v < number; v++) {
            first += lengths[v] == lengths[number] ? 1 : 0;
        }
        return String.format("%" + lengths[number] + "s", Integer.toBinaryString(first)).replace(' ', '0');
    }
}
