import java.util.Arrays;

/** Promises 17 and 18: marks, and BLOCKS that are opened alone. */
public final class AloneTest {
    private static final Checks C = new Checks("AloneTest");

    public static void main(String[] args) {
        allBlocks();
        anywhere();
        spoiledRow();
        stays();
        wrong();
        C.finish();
    }

    private static void allBlocks() {
        int[] input = Checks.mixed(11, 900, 40);
        PlainPacker packed = new PlainPacker(input, 1);
        SortPacks x = Checks.fed(1, packed.row.bytes());
        x.open();
        int from = 0;
        for (int i = 0; i < packed.facts.size(); i++) {
            C.due("mark(" + i + ")", x.mark(i), packed.facts.get(i)[0]);
            from += packed.facts.get(i)[1];
        }
        C.due("mark behind", x.mark(packed.facts.size()), SortPacks.BAD);
        C.due("all bytes", from, input.length);
        from = 0;
        for (int i = 0; i < packed.facts.size(); i++) {
            int size = packed.facts.get(i)[1];
            SortPacks y = Checks.fed(9, packed.row.bytes());
            y.open();
            C.due("alone(" + i + ")", y.alone(i), size);
            C.dueBytes("alone(" + i + ")", Checks.outFrom(y, 0), Arrays.copyOfRange(input, from, from + size));
            C.due("alone: blocks stay", y.block(-1, 0), packed.facts.size());
            C.due("alone: block 0 stays", y.block(0, 1), packed.facts.get(0)[1]);
            C.due("alone: choices are its own", y.choice(packed.facts.get(i)[6] - 1) >= 0 ? 1 : 0, 1);
            C.due("alone: choices are its own", y.choice(packed.facts.get(i)[6]), SortPacks.BAD);
            C.due("alone: lengths are its own", y.length(0, packed.facts.get(i)[4] + 1) > 0 ? 1 : 0, 1);
            C.due("alone: lengths are its own", y.length(0, packed.facts.get(i)[4] + 2), SortPacks.BAD);
            from += size;
        }
    }

    /** THE MARK is found at every bit, also in what is no row at all. */
    private static void anywhere() {
        for (int shift = 0; shift < 9; shift++) {
            BitRow row = new BitRow().put("1".repeat(shift));
            HandBlock.oneByte().writeTo(row).put(48, BitRow.BLOCK_MARK);
            int second = row.size() - 48;
            SortPacks x = Checks.fed(1, row.bytes());
            x.open();
            C.due("no row: rule", x.rule(), 2);
            C.due("mark(0) behind " + shift, x.mark(0), shift);
            C.due("mark(1) behind " + shift, x.mark(1), second);
            C.due("mark(2) behind " + shift, x.mark(2), SortPacks.BAD);
            C.due("alone(0) behind " + shift, x.alone(0), 1);
            C.due("alone(0): out", x.out(0), 97);
            C.due("alone(0): rule", x.rule(), 0);
            C.due("alone(1): nothing behind", x.alone(1), -10 - row.bytes().length);
            C.due("alone(1): rule", x.rule(), 1);
            C.due("alone(1): OUT", x.count(1), 0);
            C.due("alone(1): choices of alone(0)", x.choice(0), 0);
        }
        SortPacks x = Checks.fed(1, Checks.hex("3141592653"));
        x.open();
        C.due("40 bits of it", x.mark(0), SortPacks.BAD);
        for (int less = 1; less < 4; less++) {
            BitRow row = new BitRow().put(48 - less, BitRow.BLOCK_MARK & (1L << 48 - less) - 1).put("111");
            Checks.feedAll(x, row.bytes());
            x.open();
            C.due("all but the first " + less + " bits of it", x.mark(0), SortPacks.BAD);
            C.due("all but the first " + less + " bits of it", x.alone(0), SortPacks.BAD);
        }
        Checks.feedAll(x, Checks.hex("314159265359"));
        C.due("the input is not what open() had", x.mark(0), SortPacks.BAD);
        x.open();
        C.due("48 bits", x.mark(0), 0);
    }

    private static void spoiledRow() {
        int[] input = Checks.mixed(12, 600, 9);
        PlainPacker packed = new PlainPacker(input, 1);
        SortPacks x = Checks.fed(1, packed.row.bytes());
        x.spoil(0, 1);
        C.due("spoiled head", x.open(), -11);
        C.due("spoiled head: blocks", x.block(-1, 0), 0);
        C.due("spoiled head: alone(1)", x.alone(1), packed.facts.get(1)[1]);
        C.due("spoiled head: rule", x.rule(), 0);
        C.due("spoiled head: blocks", x.block(-1, 0), 0);
        C.due("spoiled head: sum", x.sum(0), 0);
    }

    private static void stays() {
        SortPacks x = new SortPacks(1);
        x.octets(5, 3);
        x.pack();
        C.due("mark() is not of OUT", x.mark(0), SortPacks.BAD);
        x.pass();
        x.open();
        x.octets(6, 9);
        x.pack();
        C.due("behind pack(): mark", x.mark(0), 32);
        C.due("behind pack(): 3 SIGNS and 2 less", x.length(0, 4), SortPacks.BAD);
        C.due("behind pack(): alone", x.alone(0), 3);
        C.due("behind pack(): out", x.out(2), 5);
        C.due("behind pack(): blocks are the packed ones", x.block(0, 1), 9);
        C.due("behind pack(): sum is the packed one's", x.sum(0), BitRow.sum(Checks.times(6, 9)));
        C.due("behind pack(): lengths are alone's", x.length(0, 2) > 0 ? 1 : 0, 1);
        C.due("behind pack(): lengths are alone's", x.length(0, 3), SortPacks.BAD);
        C.due("count(2)", x.count(2), 37);
        x.open();
        C.due("nothing as input", x.mark(0), SortPacks.BAD);
        C.due("nothing as input", x.alone(0), SortPacks.BAD);
        C.due("nothing as input: count(2)", x.count(2), 0);
    }

    private static void wrong() {
        SortPacks x = new SortPacks(1);
        x.octets(5, 3);
        x.pack();
        x.pass();
        x.open();
        for (int i : new int[] {-1, 1, 2, Integer.MAX_VALUE, Integer.MIN_VALUE}) {
            C.due("mark(" + i + ")", x.mark(i), SortPacks.BAD);
            C.due("alone(" + i + ")", x.alone(i), SortPacks.BAD);
        }
        C.due("BAD leaves OUT", x.count(1), 3);
        C.due("BAD leaves the CHOICES", x.choice(0), 1);
    }
}
