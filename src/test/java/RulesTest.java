import java.util.Arrays;

/**
 * Promises 6, 7 and 18 where a RULE is broken: which one, and how many bytes were read then.
 * Each case stands behind a good BLOCK that is longer by 0 to 7 bits, so that the bit is told exactly.
 */
public final class RulesTest {
    private static final Checks C = new Checks("RulesTest");

    /** Writes what breaks a RULE: the bit behind which it is seen. */
    private interface Part {
        int write(BitRow row);
    }

    public static void main(String[] args) {
        tooEarly();
        heads();
        marks();
        breaks(4, "the bit that is 0", row -> {
            HandBlock made = HandBlock.oneByte();
            row.put(48, BitRow.BLOCK_MARK).put(32, made.sum).put(1, 1);
            return row.size();
        });
        maps();
        choices();
        lengths();
        codes();
        rooms();
        origins();
        ends();
        sums();
        order();
        C.finish();
    }

    private static void breaks(int rule, String name, Part part) {
        for (int more = 0; more < 8; more++) {
            BitRow row = new BitRow().head(1);
            HandBlock.oneByte().choices(1 + more).writeTo(row);
            int from = row.size();
            int bit = part.write(row);
            // Ones and zeros, so that reading on would find something.
            row.put("0110".repeat(30)).whole();
            SortPacks x = Checks.fed(5, row.bytes());
            String shifted = "RULE " + rule + ", " + name + ", shifted by " + more;
            C.due(shifted + ": open", x.open(), -10 - (bit + 7) / 8);
            C.due(shifted + ": rule", x.rule(), rule);
            C.due(shifted + ": OUT", x.count(1), 1);
            C.due(shifted + ": blocks", x.block(-1, 0), 1);
            C.due(shifted + ": choice", x.choice(more), 0);
            C.due(shifted + ": choice", x.choice(more + 1), SortPacks.BAD);
            if (x.mark(1) == from) {
                alone(shifted, x, rule, bit);
            }
        }
    }

    private static void alone(String name, SortPacks x, int rule, int bit) {
        boolean hasMoreRoom = rule == 8 && name.contains("ROOM");
        if (!hasMoreRoom) {
            C.due(name + ": alone", x.alone(1), -10 - (bit + 7) / 8);
            C.due(name + ": rule of alone", x.rule(), rule);
            C.due(name + ": OUT is empty", x.count(1), 0);
            C.dueNoByte(x, 0);
            C.due(name + ": blocks stay", x.block(-1, 0), 1);
        }
        C.due(name + ": alone(0)", x.alone(0), 1);
        C.due(name + ": rule of alone(0)", x.rule(), 0);
    }

    private static void tooEarly() {
        SortPacks nothing = new SortPacks(1);
        C.due("nothing", nothing.open(), -10);
        C.due("nothing: rule", nothing.rule(), 1);
        PlainPacker packed = new PlainPacker(Checks.mixed(3, 60, 30), 1);
        int[] all = packed.row.bytes();
        for (int size = 1; size < all.length; size++) {
            SortPacks x = Checks.fed(1, Arrays.copyOf(all, size));
            C.due("cut to " + size, x.open(), -10 - size);
            C.due("cut to " + size + ": rule", x.rule(), 1);
            boolean isEnd = 8 * size >= packed.row.size() - 80 - 7;
            if (size < all.length - 11) {
                C.due("cut to " + size + ": OUT", x.count(1), 0);
            } else if (isEnd && size >= all.length - 9) {
                C.due("cut to " + size + ": OUT", x.count(1), 60);
            }
        }
        SortPacks x = Checks.fed(1, Checks.join(all, Arrays.copyOf(all, 2)));
        C.due("second row cut", x.open(), -10 - all.length - 2);
        C.due("second row cut: rule", x.rule(), 1);
        C.due("second row cut: OUT", x.count(1), 60);
    }

    private static void heads() {
        int[] good = {66, 90, 104, 49};
        for (int k = 0; k < 4; k++) {
            int[] row = good.clone();
            row[k] = k == 3 ? 48 : row[k] + 1;
            SortPacks x = Checks.fed(1, Checks.join(row, Checks.times(0, 30)));
            C.due("head " + k, x.open(), -11 - k);
            C.due("head " + k + ": rule", x.rule(), 2);
            int[] before = new PlainPacker(new int[] {1, 2, 3}, 1).row.bytes();
            Checks.feedAll(x, Checks.join(before, row, Checks.times(0, 30)));
            C.due("second head " + k, x.open(), -11 - k - before.length);
            C.due("second head " + k + ": rule", x.rule(), 2);
            C.due("second head " + k + ": OUT", x.count(1), 3);
        }
        for (int level = 48; level <= 58; level++) {
            SortPacks x = Checks.fed(1, Checks.hex("425a68" + Integer.toHexString(level) + "17724538509000000000"));
            C.due("LEVEL " + level, x.open(), level == 48 || level == 58 ? -14 : 0);
        }
    }

    private static void marks() {
        breaks(3, "neither mark", row -> row.put(48, BitRow.BLOCK_MARK ^ 1).size());
        breaks(3, "neither mark", row -> row.put(48, BitRow.END_MARK ^ 1L << 47).size());
        breaks(3, "neither mark", row -> row.put(48, 0).size());
    }

    private static BitRow head(BitRow row) {
        return HandBlock.oneByte().writeHead(row);
    }

    private static void maps() {
        breaks(5, "no sixteen", row -> head(row).put(16, 0).size());
        breaks(5, "no sign in a sixteen", row -> head(row).put(16, 1).put(16, 0).size());
        breaks(5, "no sign in all", row -> head(row).put(16, 0xFFFF).put("0".repeat(256)).size());
    }

    private static BitRow map(BitRow row) {
        return HandBlock.oneByte().writeMap(head(row));
    }

    private static void choices() {
        for (int tables : new int[] {0, 1, 7}) {
            breaks(6, tables + " TABLES", row -> map(row).put(3, tables).size());
        }
        breaks(6, "no CHOICES", row -> map(row).put(3, 2).put(15, 0).size());
        for (int t = 2; t <= 6; t++) {
            int tables = t;
            breaks(6, "first CHOICE of " + t,
                row -> map(row).put(3, tables).put(15, 3).put("1".repeat(tables)).size());
            breaks(6, "third CHOICE of " + t,
                row -> map(row).put(3, tables).put(15, 3).put("100").put("1".repeat(tables)).size());
        }
    }

    private static BitRow chosen(BitRow row) {
        return HandBlock.oneByte().writeChoices(map(row));
    }

    private static void lengths() {
        for (int one : new int[] {0, 21, 31}) {
            breaks(7, "LENGTH " + one, row -> chosen(row).put(5, one).size());
        }
        breaks(7, "1 less", row -> chosen(row).put(5, 1).put("11").size());
        breaks(7, "20 and more", row -> chosen(row).put(5, 20).put("10").size());
        breaks(7, "back would help", row -> chosen(row).put(5, 20).put("1110").put("10").size());
        breaks(7, "second sign", row -> chosen(row).put(5, 2).put("110").put("11").size());
        breaks(7, "second TABLE", row -> chosen(row).put(5, 2).put("000").put(5, 0).size());
        breaks(7, "second TABLE's last sign", row -> chosen(row).put(5, 2).put("000").put(5, 19).put("0010" + "10").size());
    }

    private static BitRow upTo(HandBlock made, BitRow row) {
        made.writeHead(row);
        made.writeMap(row);
        made.writeChoices(row);
        return made.writeLengths(row);
    }

    private static void codes() {
        HandBlock made = HandBlock.oneByte();
        made.lengths = new int[][] {{2, 2, 2}, {1, 1, 1}};
        breaks(8, "twenty bits without a code", row -> upTo(made, row).put("1".repeat(20)).size());
        breaks(8, "twenty bits behind a code", row -> upTo(made, row).put("00").put("11").put("0".repeat(18)).size());
        // Fifty places one, and no CHOICE for more.
        breaks(8, "CHOICES at an end", row -> upTo(HandBlock.ofTwo(null), row).put("10".repeat(50)).size());
        breaks(8, "two CHOICES at an end",
            row -> upTo(HandBlock.ofTwo(null).choices(2), row).put("10".repeat(100)).size());
        // THE LAST as the fiftieth is in time.
        HandBlock fits = HandBlock.ofTwo(null);
        fits.sum = 0;
        breaks(12, "THE LAST is the fiftieth", row -> upTo(fits, row).put("10".repeat(49)).put("11").size());
    }

    /** ROOM of LEVEL 1 is 200; a digit counts when it is read, with the BLOCK's bytes before its run. */
    private static void rooms() {
        HandBlock two = HandBlock.ofTwo(null).choices(9);
        breaks(8, "a byte beyond ROOM", row -> upTo(two, row).put("10".repeat(201)).size());
        // 255 = 1 + 2 + .. + 128, 127 without the last digit.
        breaks(8, "digits beyond ROOM", row -> upTo(two, row).put("00".repeat(8)).size());
        breaks(8, "digits beyond ROOM", row -> upTo(two, row).put("01".repeat(7)).size());
        breaks(8, "digits beyond ROOM behind bytes", row -> upTo(two, row).put("10".repeat(3)).put("01".repeat(7)).size());
        // Each of these rows goes on with codes; the digit itself is what is seen.
        for (String behind : new String[] {"00", "01", "10", "11"}) {
            String name = "ROOM, then " + behind;
            breaksAhead(name + ", 100 bytes and 127", "10".repeat(100) + "00".repeat(7), behind);
            breaksAhead(name + ", 74 bytes and 127", "10".repeat(74) + "00".repeat(7), behind);
            breaksAhead(name + ", 75 bytes and 126", "10".repeat(75) + "01".repeat(6), behind);
            breaksAhead(name + ", 170 bytes and 31", "10".repeat(170) + "00".repeat(5), behind);
            breaksAhead(name + ", 199 bytes and 2", "10".repeat(199) + "01", behind);
            breaksAhead(name + ", 200 bytes and 1", "10".repeat(200) + "00", behind);
            breaksAhead(name + ", a run of 127, a byte, 127", "00".repeat(7) + "10" + "00".repeat(7), behind);
        }
        breaks(8, "a byte beyond ROOM behind a run",
            row -> upTo(two, row).put("10".repeat(73)).put("00".repeat(7)).put("10").size());
        // 200 bytes are not beyond.
        HandBlock just = HandBlock.ofTwo(null).choices(9).sum(0);
        breaks(12, "200 bytes", row -> upTo(just, row).put("10".repeat(200)).put("11").size());
        breaks(12, "73 bytes and 127", row -> upTo(just, row).put("10".repeat(73)).put("00".repeat(7)).put("11").size());
        breaks(12, "199 bytes and 1", row -> upTo(just, row).put("10".repeat(199)).put("00").put("11").size());
        roomOfAlone();
    }

    /** RULE 8 behind the codes, ahead of what stands behind them. */
    private static void breaksAhead(String name, String codes, String behind) {
        HandBlock two = HandBlock.ofTwo(null).choices(9);
        breaks(8, name, row -> {
            int bit = upTo(two, row).put(codes).size();
            row.put(behind);
            return bit;
        });
    }

    /** Alone a BLOCK has the ROOM of LEVEL 9, whatever its row says. */
    private static void roomOfAlone() {
        int[] input = Checks.mixed(8, 900, 200);
        int[] packed = new PlainPacker(input, 9).row.bytes();
        SortPacks x = Checks.fed(1, packed);
        x.spoil(3, '9' ^ '1');
        C.due("LEVEL 9 told as 1: open", x.open() < -10 ? 8 : 0, x.rule());
        C.due("LEVEL 9 told as 1: OUT", x.count(1), 0);
        C.due("LEVEL 9 told as 1: alone", x.alone(0), 900);
        C.due("LEVEL 9 told as 1: rule", x.rule(), 0);
        C.due("LEVEL 9 told as 1: blocks", x.block(-1, 0), 0);
        C.dueBytes("LEVEL 9 told as 1: OUT", Checks.outFrom(x, 0), Checks.part(input, 0));
        BitRow row = new BitRow().head(1);
        int bit = upTo(HandBlock.ofTwo(null).choices(99), row).put("10".repeat(1801)).size();
        x = Checks.fed(1, row.put(100, 0).bytes());
        x.open();
        C.due("1801 bytes alone", x.alone(0), -10 - (bit + 7) / 8);
        C.due("1801 bytes alone: rule", x.rule(), 8);
        for (int more = 0; more < 8; more++) {
            digitsAlone(99 + more, 1290, 8);
            // 1,800 are not beyond ROOM; turned back they hold long runs, which OUT does not.
            digitsAlone(99 + more, 1289, 11);
        }
    }

    /** Bytes, then digits 1 up to 511, which are beyond the ROOM of LEVEL 9 from 1,290 bytes on; nothing is behind. */
    private static void digitsAlone(int choices, int bytes, int rule) {
        BitRow row = new BitRow().head(1);
        HandBlock made = HandBlock.ofTwo(null).choices(choices).sum(0);
        upTo(made, row).put("10".repeat(bytes)).put("00".repeat(9));
        int bit = rule == 8 ? row.size() : row.put("11").size();
        // The bits up to the whole byte are all that is behind.
        SortPacks x = Checks.fed(1, row.whole().bytes());
        x.open();
        C.due("of LEVEL 1: rule", x.rule(), 8);
        String name = choices + " CHOICES, " + bytes + " bytes and 511 alone";
        C.due(name, x.alone(0), -10 - (bit + 7) / 8);
        C.due(name + ": rule", x.rule(), rule);
        C.due(name + ": OUT", x.count(1), 0);
    }

    private static void origins() {
        breaks(9, "ORIGIN 1 of one", row -> HandBlock.oneByte().origin(1).writeTo(row).size());
        breaks(9, "ORIGIN far above", row -> HandBlock.oneByte().origin(0xFFFFFF).writeTo(row).size());
        breaks(9, "no bytes", row -> HandBlock.ofSign(97, new int[] {2}).writeTo(row).size());
    }

    private static void ends() {
        breaks(10, "four like bytes", row -> HandBlock.ofSign(97, new int[] {1, 0, 2}, 97, 97, 97, 97).writeTo(row).size());
        breaks(10, "five, number, four",
            row -> HandBlock.ofSign(3, null).sum(0).numbersFor(9).writeTo(row).size());
        breaks(11, "OUT above 3000", row -> HandBlock.ofSign(255, null).sum(0).numbersFor(60).writeTo(row).size());
        // 3000 are not above, one more is.
        int[] most = Checks.join(new PlainPacker(Checks.times(1, 1500), 9).row.bytes(),
            new PlainPacker(Checks.times(2, 1500), 9).row.bytes());
        BitRow row = HandBlock.oneByte().writeTo(new BitRow().head(1));
        SortPacks x = Checks.fed(1, Checks.join(most, row.last(BitRow.sum(97)).bytes()));
        int read = most.length + (row.size() - 80) / 8;
        C.due("3001 bytes", x.open(), -10 - read);
        C.due("3001 bytes: rule", x.rule(), 11);
        C.due("3001 bytes: OUT", x.count(1), 3000);
        C.due("3001 bytes: blocks", x.block(-1, 0), 2);
        C.due("3001 bytes: alone", x.alone(2), 1);
    }

    private static void sums() {
        breaks(12, "SUM", row -> HandBlock.oneByte().sum(BitRow.sum(97) ^ 1).writeTo(row).size());
        breaks(13, "JOINED SUM", row -> row.put(48, BitRow.END_MARK).put(32, BitRow.sum(97) ^ 1 << 31).size());
        for (int more = 0; more < 8; more++) {
            BitRow row = new BitRow().head(1);
            HandBlock.oneByte().choices(1 + more).writeTo(row);
            row.put(48, BitRow.END_MARK).put(32, BitRow.sum(97));
            int behind = (8 - row.size() % 8) % 8;
            for (int bad = 0; bad < behind; bad++) {
                int[] bytes = row.bytes();
                bytes[bytes.length - 1] |= 1 << bad;
                SortPacks x = Checks.fed(1, bytes);
                C.due("RULE 14, bit " + bad, x.open(), -10 - bytes.length);
                C.due("RULE 14, bit " + bad + ": rule", x.rule(), 14);
                C.due("RULE 14, bit " + bad + ": OUT", x.count(1), 1);
            }
        }
    }

    /** 9, then 10, then 11, then 12. */
    private static void order() {
        breaks(9, "9 before 10", row -> HandBlock.ofSign(97, new int[] {1, 0, 2}).sum(5).origin(4).writeTo(row).size());
        breaks(10, "10 before 11", row -> HandBlock.ofSign(255, null).sum(5).numbersFor(64).writeTo(row).size());
        breaks(10, "10 before 12", row -> HandBlock.ofSign(97, new int[] {1, 0, 2}).sum(5).writeTo(row).size());
        breaks(11, "11 before 12", row -> HandBlock.ofSign(255, null).sum(5).numbersFor(65).writeTo(row).size());
        SortPacks x = new SortPacks(1);
        x.octets(66, 1);
        x.open();
        C.due("rule 1", x.rule(), 1);
        x.octets(1, 1);
        x.pack();
        C.due("rule stays", x.rule(), 1);
        x.pass();
        x.open();
        C.due("rule 0", x.rule(), 0);
    }
}
