import java.util.ArrayList;
import java.util.Comparator;
import java.util.HashMap;
import java.util.List;
import java.util.Map;

/** The document's OPENING written a second time, slowly and straight from its words. */
final class PlainOpener {
    private static final String MARK = new BitRow().put(48, BitRow.BLOCK_MARK).text();
    private static final String END = new BitRow().put(48, BitRow.END_MARK).text();

    int rule;
    final List<Integer> out = new ArrayList<>();
    final List<int[]> facts = new ArrayList<>();
    final List<Integer> sums = new ArrayList<>();
    final List<Integer> marks = new ArrayList<>();
    int[] choices = {};
    int[][] lengths = {};
    /** The SUM that the latest BLOCK ought to have, if it came so far. */
    int rightSum;

    private final String bits;
    private int at;

    /** Ends the reading at the bit where a RULE is seen broken. */
    private static final class Broken extends RuntimeException {
        private static final long serialVersionUID = 1;
        private final int rule;

        Broken(int rule) {
            this.rule = rule;
        }
    }

    PlainOpener(int[] bytes) {
        bits = new BitRow().putBytes(bytes).text();
        for (int from = bits.indexOf(MARK); from >= 0; from = bits.indexOf(MARK, from + 1)) {
            marks.add(from);
        }
    }

    int open() {
        at = 0;
        try {
            int row = 0;
            do {
                openRow(row++);
            } while (at < bits.length());
        } catch (Broken broken) {
            rule = broken.rule;
            return -10 - (at + 7) / 8;
        }
        return out.size();
    }

    int alone(int i) {
        rule = 0;
        out.clear();
        at = marks.get(i) + 48;
        try {
            openBlock(1800, new int[9]);
        } catch (Broken broken) {
            rule = broken.rule;
            return -10 - (at + 7) / 8;
        }
        return out.size();
    }

    int[] outBytes() {
        return out.stream().mapToInt(Integer::intValue).toArray();
    }

    private int bit() {
        if (at == bits.length()) {
            throw new Broken(1);
        }
        return bits.charAt(at++) - '0';
    }

    private String text(int width) {
        StringBuilder read = new StringBuilder();
        while (read.length() < width) {
            read.append(bit());
        }
        return read.toString();
    }

    private int number(int width) {
        return (int) Long.parseLong(text(width), 2);
    }

    private static void demand(boolean holds, int rule) {
        if (!holds) {
            throw new Broken(rule);
        }
    }

    private void openRow(int row) {
        demand(number(8) == 66, 2);
        demand(number(8) == 90, 2);
        demand(number(8) == 104, 2);
        int level = number(8) - 48;
        demand(level >= 1 && level <= 9, 2);
        int joined = 0;
        while (true) {
            int from = at;
            String mark = text(48);
            if (mark.equals(END)) {
                demand(number(32) == joined, 13);
                while (at % 8 != 0) {
                    demand(bit() == 0, 14);
                }
                return;
            }
            demand(mark.equals(MARK), 3);
            int[] told = new int[9];
            told[0] = from;
            told[7] = row;
            int sum = openBlock(200 * level, told);
            joined = Integer.rotateLeft(joined, 1) ^ sum;
            facts.add(told);
            sums.add(sum);
        }
    }

    /** Behind THE MARK: the BLOCK's SUM. */
    private int openBlock(int room, int[] told) {
        int sum = number(32);
        demand(bit() == 0, 4);
        int origin = number(24);
        List<Integer> signs = readMap();
        demand(!signs.isEmpty(), 5);
        int tables = number(3);
        demand(tables >= 2 && tables <= 6, 6);
        int[] chosen = new int[number(15)];
        demand(chosen.length > 0, 6);
        readChoices(tables, chosen);
        int[][] given = new int[tables][signs.size() + 2];
        for (int[] table : given) {
            readLengths(table);
        }
        List<Integer> last = new ArrayList<>();
        told[8] = readNumbers(room, signs, chosen, given, last);
        demand(origin < last.size(), 9);
        List<Integer> plain = lengthened(turnedBack(last, origin));
        demand(out.size() + plain.size() <= 3000, 11);
        rightSum = BitRow.sum(plain.stream().mapToInt(Integer::intValue).toArray());
        demand(sum == rightSum, 12);
        out.addAll(plain);
        told[1] = plain.size();
        told[2] = last.size();
        told[3] = origin;
        told[4] = given[0].length - 2;
        told[5] = tables;
        told[6] = chosen.length;
        choices = chosen;
        lengths = given;
        return sum;
    }

    private List<Integer> readMap() {
        List<Integer> signs = new ArrayList<>();
        String sixteens = text(16);
        for (int k = 0; k < 16; k++) {
            String sixteen = sixteens.charAt(k) == '1' ? text(16) : "";
            for (int i = 0; i < sixteen.length(); i++) {
                if (sixteen.charAt(i) == '1') {
                    signs.add(16 * k + i);
                }
            }
        }
        return signs;
    }

    private void readChoices(int tables, int[] chosen) {
        List<Integer> front = new ArrayList<>();
        for (int t = 0; t < tables; t++) {
            front.add(t);
        }
        for (int k = 0; k < chosen.length; k++) {
            int place = 0;
            while (bit() == 1) {
                place++;
                demand(place < tables, 6);
            }
            chosen[k] = front.remove(place);
            front.add(0, chosen[k]);
        }
    }

    private void readLengths(int[] table) {
        int one = number(5);
        demand(one >= 1 && one <= 20, 7);
        for (int v = 0; v < table.length; v++) {
            while (bit() == 1) {
                one += bit() == 0 ? 1 : -1;
                demand(one >= 1 && one <= 20, 7);
            }
            table[v] = one;
        }
    }

    /** For each number of bits the values that are codes, and what they are. */
    private static List<Map<Long, Integer>> codesOf(int[] table) {
        List<Map<Long, Integer>> codes = new ArrayList<>();
        long first = 0;
        for (int n = 1; n <= 20; n++) {
            Map<Long, Integer> ofLength = new HashMap<>();
            for (int v = 0; v < table.length; v++) {
                if (table[v] == n) {
                    ofLength.put(first + ofLength.size(), v);
                }
            }
            codes.add(ofLength);
            first = 2 * (first + ofLength.size());
        }
        return codes;
    }

    private int code(List<Map<Long, Integer>> codes) {
        long value = 0;
        for (int n = 1; n <= 20; n++) {
            value = 2 * value + bit();
            Integer number = codes.get(n - 1).get(value);
            if (number != null) {
                return number;
            }
        }
        throw new Broken(8);
    }

    private int readNumbers(int room, List<Integer> front, int[] chosen, int[][] given, List<Integer> last) {
        List<List<Map<Long, Integer>>> codes = new ArrayList<>();
        for (int[] table : given) {
            codes.add(codesOf(table));
        }
        int theLast = front.size() + 1;
        long run = 0;
        long worth = 1;
        for (int read = 0; ; read++) {
            demand(read / 50 < chosen.length, 8);
            int number = code(codes.get(chosen[read / 50]));
            if (number <= 1) {
                run += worth * (number + 1);
                worth *= 2;
                demand(last.size() + run <= room, 8);
                continue;
            }
            for (; run > 0; run--) {
                last.add(front.get(0));
            }
            worth = 1;
            if (number == theLast) {
                return read + 1;
            }
            demand(last.size() < room, 8);
            front.add(0, front.remove(number - 1));
            last.add(front.get(0));
        }
    }

    /** NEXT is the rows by their bytes, like ones from above. */
    private static List<Integer> turnedBack(List<Integer> last, int origin) {
        List<Integer> next = new ArrayList<>();
        for (int row = 0; row < last.size(); row++) {
            next.add(row);
        }
        next.sort(Comparator.comparing(last::get));
        List<Integer> block = new ArrayList<>();
        int row = next.get(origin);
        for (int k = 0; k < last.size(); k++) {
            block.add(last.get(row));
            row = next.get(row);
        }
        return block;
    }

    private static List<Integer> lengthened(List<Integer> block) {
        List<Integer> plain = new ArrayList<>();
        int from = 0;
        for (int k = 0; k < block.size(); k++) {
            plain.add(block.get(k));
            if (k - from >= 3 && block.subList(k - 3, k).stream().allMatch(block.get(k)::equals)) {
                demand(k + 1 < block.size(), 10);
                for (int more = block.get(k + 1); more > 0; more--) {
                    plain.add(block.get(k));
                }
                k++;
                from = k + 1;
            }
        }
        return plain;
    }
}
