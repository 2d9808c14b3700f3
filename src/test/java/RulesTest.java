import java.util.Arrays;

/**
 * Terms, 3 OPENING: the RULES one by one (promises 6, 7 and 18): which is seen, and how many bytes were read then.
 * Each case stands behind a good BLOCK that is longer by 0 to 7 bits, so that the bit is told exactly.
 */
public final class RulesTest {
    private static final Checks C = new Checks("RulesTest");

    /** Writes what breaks a RULE: the bit behind which it is seen. */
    private interface Part {
        int write(BitRow row);
    }

    public static void main(String[] args) {
        nothing();
        tooEarly();
        heads();
        marks();
        zeroBit();
        maps();
        tables();
        noChoices();
        choices();
        lengths();
        codes();
        choicesAtAnEnd();
        rooms();
        digitsBeyondRoom();
        roomOfAlone();
        origins();
        fourAtTheEnd();
        outTooLong();
        sums();
        joinedSums();
        bitsBehind();
        order();
        firstAsRead();
        C.finish();
    }

    private static void breaks(int rule, String name, Part part) {
        for (int more = 0; more < 8; more++) {
            BitRow row = new BitRow().head(1);
            HandBlock.oneByte().choices(1 + more).writeTo(row);
            int from = row.size();
            int bit = part.write(row);
            // Ones and zeros, so that reading on would find something.
            row.put("0110".repeat(30)).whole();
            SortPacks x = Checks.fed(5, row.bytes());
            String shifted = "RULE " + rule + ", " + name + ", shifted by " + more;
            C.due(shifted + ": open", x.open(), -10 - (bit + 7) / 8);
            C.due(shifted + ": rule", x.rule(), rule);
            C.due(shifted + ": OUT", x.count(1), 1);
            C.due(shifted + ": blocks", x.block(-1, 0), 1);
            C.due(shifted + ": choice", x.choice(more), 0);
            C.due(shifted + ": choice", x.choice(more + 1), SortPacks.BAD);
            if (x.mark(1) == from) {
                alone(shifted, x, rule, bit);
            }
        }
    }

    private static void alone(String name, SortPacks x, int rule, int bit) {
        boolean hasMoreRoom = rule == 8 && name.contains("ROOM");
        if (!hasMoreRoom) {
            C.due(name + ": alone", x.alone(1), -10 - (bit + 7) / 8);
            C.due(name + ": rule of alone", x.rule(), rule);
            C.due(name + ": OUT is empty", x.count(1), 0);
            C.dueNoByte(x, 0);
            C.due(name + ": blocks stay", x.block(-1, 0), 1);
        }
        C.due(name + ": alone(0)", x.alone(0), 1);
        C.due(name + ": rule of alone(0)", x.rule(), 0);
    }

    private static void nothing() {
        C.holds("Terms 3", "Nothing at all as input: 1.");
        SortPacks nothing = new SortPacks(1);
        C.due("nothing", nothing.open(), -10);
        C.due("nothing: rule", nothing.rule(), 1);
        C.due("nothing: OUT", nothing.count(1), 0);
    }

    private static void tooEarly() {
        C.holds("Terms 3, RULES", "1 it ends too early");
        PlainPacker packed = new PlainPacker(Checks.mixed(3, 60, 30), 1);
        int[] all = packed.row.bytes();
        for (int size = 1; size < all.length; size++) {
            SortPacks x = Checks.fed(1, Arrays.copyOf(all, size));
            C.due("cut to " + size, x.open(), -10 - size);
            C.due("cut to " + size + ": rule", x.rule(), 1);
            boolean isEnd = 8 * size >= packed.row.size() - 80 - 7;
            if (size < all.length - 11) {
                C.due("cut to " + size + ": OUT", x.count(1), 0);
            } else if (isEnd && size >= all.length - 9) {
                C.due("cut to " + size + ": OUT", x.count(1), 60);
            }
        }
        SortPacks x = Checks.fed(1, Checks.join(all, Arrays.copyOf(all, 2)));
        C.due("second row cut", x.open(), -10 - all.length - 2);
        C.due("second row cut: rule", x.rule(), 1);
        C.due("second row cut: OUT", x.count(1), 60);
        cutAtEachBit();
    }

    /** Behind a BLOCK that is longer by 0 to 7 bits a second one is cut at each bit of it. */
    private static void cutAtEachBit() {
        for (int more = 0; more < 8; more++) {
            HandBlock first = HandBlock.oneByte().choices(1 + more);
            HandBlock second = HandBlock.ofTwo(new int[] {2, 0, 2, 0, 3}, 97, 98, 97, 98);
            BitRow row = first.writeTo(new BitRow().head(1));
            int from = (row.size() + 7) / 8;
            int end = (second.writeTo(row).size() + 7) / 8;
            int[] all = row.last(Integer.rotateLeft(first.sum, 1) ^ second.sum).bytes();
            for (int size = from; size < all.length; size++) {
                String name = "shifted by " + more + ", cut to " + size;
                SortPacks x = Checks.fed(1, Arrays.copyOf(all, size));
                C.due(name, x.open(), -10 - size);
                C.due(name + ": rule", x.rule(), 1);
                C.due(name + ": OUT", x.count(1), size < end ? 1 : 5);
                C.due(name + ": blocks", x.block(-1, 0), size < end ? 1 : 2);
            }
            C.due("shifted by " + more, Checks.fed(1, all).open(), 5);
        }
    }

    private static void heads() {
        C.holds("Terms 3, RULES", "2 the first four bytes of a row (behind each)");
        int[] good = {66, 90, 104, 49};
        for (int k = 0; k < 4; k++) {
            int[] row = good.clone();
            row[k] = k == 3 ? 48 : row[k] + 1;
            SortPacks x = Checks.fed(1, Checks.join(row, Checks.times(0, 30)));
            C.due("head " + k, x.open(), -11 - k);
            C.due("head " + k + ": rule", x.rule(), 2);
            int[] before = new PlainPacker(new int[] {1, 2, 3}, 1).row.bytes();
            Checks.feedAll(x, Checks.join(before, row, Checks.times(0, 30)));
            C.due("second head " + k, x.open(), -11 - k - before.length);
            C.due("second head " + k + ": rule", x.rule(), 2);
            C.due("second head " + k + ": OUT", x.count(1), 3);
        }
        for (int level = 48; level <= 58; level++) {
            SortPacks x = Checks.fed(1, Checks.hex("425a68" + Integer.toHexString(level) + "17724538509000000000"));
            C.due("LEVEL " + level, x.open(), level == 48 || level == 58 ? -14 : 0);
        }
    }

    private static void marks() {
        C.holds("Terms 3, RULES", "3 48 bits that are neither mark (behind all of them)");
        breaks(3, "neither mark", row -> row.put(48, BitRow.BLOCK_MARK ^ 1).size());
        breaks(3, "neither mark", row -> row.put(48, BitRow.END_MARK ^ 1L << 47).size());
        breaks(3, "neither mark", row -> row.put(48, 0).size());
        for (int bit = 0; bit < 48; bit += 5) {
            long turned = 1L << bit;
            breaks(3, "THE MARK with bit " + bit + " turned", row -> row.put(48, BitRow.BLOCK_MARK ^ turned).size());
            breaks(3, "THE END with bit " + bit + " turned", row -> row.put(48, BitRow.END_MARK ^ turned).size());
        }
    }

    private static void zeroBit() {
        C.holds("Terms 3, RULES", "4 the bit that is 0");
        breaks(4, "it is 1", row -> {
            HandBlock made = HandBlock.oneByte();
            return row.put(48, BitRow.BLOCK_MARK).put(32, made.sum).put(1, 1).size();
        });
    }

    private static BitRow head(BitRow row) {
        return HandBlock.oneByte().writeHead(row);
    }

    private static void maps() {
        C.holds("Terms 3, RULES", "5 no SIGN is there (behind the map)");
        breaks(5, "no sixteen", row -> head(row).put(16, 0).size());
        breaks(5, "no sign in a sixteen", row -> head(row).put(16, 1).put(16, 0).size());
        breaks(5, "no sign in all", row -> head(row).put(16, 0xFFFF).put("0".repeat(256)).size());
    }

    private static BitRow map(BitRow row) {
        return HandBlock.oneByte().writeMap(head(row));
    }

    private static void tables() {
        C.holds("Terms 3, RULES", "6 TABLES not 2 .. 6 (behind them)");
        for (int tables : new int[] {0, 1, 7}) {
            breaks(6, tables + " TABLES", row -> map(row).put(3, tables).size());
        }
        for (int tables = 2; tables <= 6; tables++) {
            int some = tables;
            breaks(7, tables + " TABLES are some", row -> map(row).put(3, some).put(15, 1).put("0").put(5, 0).size());
        }
    }

    private static void noChoices() {
        C.holds("Terms 3, RULES", "CHOICES 0 (behind them)");
        for (int t = 2; t <= 6; t++) {
            int tables = t;
            breaks(6, "no CHOICES of " + t, row -> map(row).put(3, tables).put(15, 0).size());
        }
        breaks(7, "1 CHOICE is one", row -> map(row).put(3, 2).put(15, 1).put("0").put(5, 0).size());
    }

    private static void choices() {
        C.holds("Terms 3, RULES", "a CHOICE that is none of the TABLES (behind the 1 that is one too many)");
        for (int t = 2; t <= 6; t++) {
            int tables = t;
            breaks(6, "first CHOICE of " + t,
                row -> map(row).put(3, tables).put(15, 3).put("1".repeat(tables)).size());
            breaks(6, "third CHOICE of " + t,
                row -> map(row).put(3, tables).put(15, 3).put("100").put("1".repeat(tables)).size());
            breaks(7, "the last place of " + t,
                row -> map(row).put(3, tables).put(15, 1).put("1".repeat(tables - 1)).put("0").put(5, 0).size());
        }
    }

    private static BitRow chosen(BitRow row) {
        return HandBlock.oneByte().writeChoices(map(row));
    }

    private static void lengths() {
        C.holds("Terms 3, RULES", "7 a LENGTH that is not 1 .. 20 (when it is asked: behind the 5 bits, and behind each change)");
        for (int one : new int[] {0, 21, 31}) {
            breaks(7, "LENGTH " + one, row -> chosen(row).put(5, one).size());
        }
        breaks(7, "1 less", row -> chosen(row).put(5, 1).put("11").size());
        breaks(7, "20 and more", row -> chosen(row).put(5, 20).put("10").size());
        breaks(7, "back would help", row -> chosen(row).put(5, 20).put("1110").put("10").size());
        breaks(7, "second sign", row -> chosen(row).put(5, 2).put("110").put("11").size());
        breaks(7, "second TABLE", row -> chosen(row).put(5, 2).put("000").put(5, 0).size());
        breaks(7, "second TABLE's last sign", row -> chosen(row).put(5, 2).put("000").put(5, 19).put("0010" + "10").size());
        breaks(7, "from 1 to 20 and 21", row -> chosen(row).put(5, 1).put("10".repeat(20)).size());
        breaks(7, "from 20 to 1 and 0", row -> chosen(row).put(5, 20).put("11".repeat(20)).size());
        HandBlock edges = HandBlock.oneByte().sum(0);
        edges.lengths = new int[][] {{1, 20, 20}, {20, 1, 1}};
        breaks(12, "1 and 20 are some", row -> edges.writeTo(row).size());
    }

    private static BitRow upTo(HandBlock made, BitRow row) {
        made.writeHead(row);
        made.writeMap(row);
        made.writeChoices(row);
        return made.writeLengths(row);
    }

    private static void codes() {
        C.holds("Terms 3, RULES", "8 a code that is none");
        HandBlock made = HandBlock.oneByte();
        made.lengths = new int[][] {{2, 2, 2}, {1, 1, 1}};
        breaks(8, "twenty bits without a code", row -> upTo(made, row).put("1".repeat(20)).size());
        breaks(8, "twenty bits behind a code", row -> upTo(made, row).put("00").put("11").put("0".repeat(18)).size());
    }

    private static void choicesAtAnEnd() {
        C.holds("Terms 3, RULES", "CHOICES at an end before THE LAST (ahead of the next code)");
        // Fifty places one, and no CHOICE for more.
        breaks(8, "CHOICES at an end", row -> upTo(HandBlock.ofTwo(null), row).put("10".repeat(50)).size());
        breaks(8, "two CHOICES at an end",
            row -> upTo(HandBlock.ofTwo(null).choices(2), row).put("10".repeat(100)).size());
        // THE LAST as the fiftieth is in time.
        HandBlock fits = HandBlock.ofTwo(null);
        fits.sum = 0;
        breaks(12, "THE LAST is the fiftieth", row -> upTo(fits, row).put("10".repeat(49)).put("11").size());
        HandBlock two = HandBlock.ofTwo(null).choices(2).sum(0);
        breaks(12, "THE LAST is the hundredth", row -> upTo(two, row).put("10".repeat(99)).put("11").size());
        // Ahead of the next code: whether there are bits for it is not asked.
        for (int more = 0; more < 8; more++) {
            BitRow row = new BitRow().head(1);
            HandBlock.oneByte().choices(1 + more).writeTo(row);
            upTo(HandBlock.ofTwo(null), row).put("10".repeat(50));
            if (row.size() % 8 == 0) {
                SortPacks x = Checks.fed(1, row.bytes());
                C.due("nothing behind the fiftieth", x.open(), -10 - row.size() / 8);
                C.due("nothing behind the fiftieth: rule", x.rule(), 8);
            }
        }
    }

    /** ROOM of LEVEL 1 is 200. */
    private static void rooms() {
        C.holds("Terms 3, RULES", "more bytes than ROOM (when a run, a byte would go beyond");
        HandBlock two = HandBlock.ofTwo(null).choices(9);
        breaks(8, "a byte beyond ROOM", row -> upTo(two, row).put("10".repeat(201)).size());
        breaks(8, "a byte beyond ROOM behind a run",
            row -> upTo(two, row).put("10".repeat(73)).put("00".repeat(7)).put("10").size());
        // 200 bytes are not beyond.
        HandBlock just = HandBlock.ofTwo(null).choices(9).sum(0);
        breaks(12, "200 bytes", row -> upTo(just, row).put("10".repeat(200)).put("11").size());
        breaks(12, "73 bytes and 127", row -> upTo(just, row).put("10".repeat(73)).put("00".repeat(7)).put("11").size());
        breaks(12, "199 bytes and 1", row -> upTo(just, row).put("10".repeat(199)).put("00").put("11").size());
    }

    private static void digitsBeyondRoom() {
        C.holds("Terms 3, RULES", "digits count when they are read: a run that is above ROOM with them)");
        HandBlock two = HandBlock.ofTwo(null).choices(9);
        // 255 = 1 + 2 + .. + 128, 127 without the last digit.
        breaks(8, "digits beyond ROOM", row -> upTo(two, row).put("00".repeat(8)).size());
        breaks(8, "digits beyond ROOM", row -> upTo(two, row).put("01".repeat(7)).size());
        breaks(8, "digits beyond ROOM behind bytes", row -> upTo(two, row).put("10".repeat(3)).put("01".repeat(7)).size());
        // Each of these rows goes on with codes; the digit itself is what is seen.
        for (String behind : new String[] {"00", "01", "10", "11"}) {
            String name = "ROOM, then " + behind;
            breaksAhead(name + ", 100 bytes and 127", "10".repeat(100) + "00".repeat(7), behind);
            breaksAhead(name + ", 74 bytes and 127", "10".repeat(74) + "00".repeat(7), behind);
            breaksAhead(name + ", 75 bytes and 126", "10".repeat(75) + "01".repeat(6), behind);
            breaksAhead(name + ", 170 bytes and 31", "10".repeat(170) + "00".repeat(5), behind);
            breaksAhead(name + ", 199 bytes and 2", "10".repeat(199) + "01", behind);
            breaksAhead(name + ", 200 bytes and 1", "10".repeat(200) + "00", behind);
            breaksAhead(name + ", a run of 127, a byte, 127", "00".repeat(7) + "10" + "00".repeat(7), behind);
        }
    }

    /** RULE 8 behind the codes, ahead of what stands behind them. */
    private static void breaksAhead(String name, String codes, String behind) {
        HandBlock two = HandBlock.ofTwo(null).choices(9);
        breaks(8, name, row -> {
            int bit = upTo(two, row).put(codes).size();
            row.put(behind);
            return bit;
        });
    }

    /** Alone a BLOCK has the ROOM of LEVEL 9, whatever its row says. */
    private static void roomOfAlone() {
        C.holds("Promise 18", "(ROOM of LEVEL 9)");
        int[] input = Checks.mixed(8, 900, 200);
        int[] packed = new PlainPacker(input, 9).row.bytes();
        SortPacks x = Checks.fed(1, packed);
        x.spoil(3, '9' ^ '1');
        C.due("LEVEL 9 told as 1: open", x.open() < -10 ? 8 : 0, x.rule());
        C.due("LEVEL 9 told as 1: OUT", x.count(1), 0);
        C.due("LEVEL 9 told as 1: alone", x.alone(0), 900);
        C.due("LEVEL 9 told as 1: rule", x.rule(), 0);
        C.due("LEVEL 9 told as 1: blocks", x.block(-1, 0), 0);
        C.dueBytes("LEVEL 9 told as 1: OUT", Checks.outFrom(x, 0), Checks.part(input, 0));
        BitRow row = new BitRow().head(1);
        int bit = upTo(HandBlock.ofTwo(null).choices(99), row).put("10".repeat(1801)).size();
        x = Checks.fed(1, row.put(100, 0).bytes());
        x.open();
        C.due("1801 bytes alone", x.alone(0), -10 - (bit + 7) / 8);
        C.due("1801 bytes alone: rule", x.rule(), 8);
        for (int more = 0; more < 8; more++) {
            digitsAlone(99 + more, 1290, 8);
            // 1,800 are not beyond ROOM; turned back they hold long runs, which OUT does not.
            digitsAlone(99 + more, 1289, 11);
        }
    }

    /** Bytes, then digits 1 up to 511, which are beyond the ROOM of LEVEL 9 from 1,290 bytes on; nothing is behind. */
    private static void digitsAlone(int choices, int bytes, int rule) {
        BitRow row = new BitRow().head(1);
        HandBlock made = HandBlock.ofTwo(null).choices(choices).sum(0);
        upTo(made, row).put("10".repeat(bytes)).put("00".repeat(9));
        int bit = rule == 8 ? row.size() : row.put("11").size();
        // The bits up to the whole byte are all that is behind.
        SortPacks x = Checks.fed(1, row.whole().bytes());
        x.open();
        C.due("of LEVEL 1: rule", x.rule(), 8);
        String name = choices + " CHOICES, " + bytes + " bytes and 511 alone";
        C.due(name, x.alone(0), -10 - (bit + 7) / 8);
        C.due(name + ": rule", x.rule(), rule);
        C.due(name + ": OUT", x.count(1), 0);
    }

    private static void origins() {
        C.holds("Terms 3, RULES", "9 ORIGIN not below the BLOCK's bytes (behind THE LAST; also without bytes)");
        breaks(9, "ORIGIN 1 of one", row -> HandBlock.oneByte().origin(1).writeTo(row).size());
        breaks(9, "ORIGIN far above", row -> HandBlock.oneByte().origin(0xFFFFFF).writeTo(row).size());
        breaks(9, "no bytes", row -> HandBlock.ofSign(97, new int[] {2}).writeTo(row).size());
        breaks(9, "no bytes, ORIGIN 1", row -> HandBlock.ofSign(97, new int[] {2}).origin(1).writeTo(row).size());
        // Not the bytes of OUT: 5 bytes 97 are 101 there.
        breaks(9, "ORIGIN 5 of five", row -> HandBlock.ofSign(97, null).numbersFor(5).origin(5).writeTo(row).size());
        breaks(12, "ORIGIN 4 of five", row -> HandBlock.ofSign(97, null).numbersFor(5).origin(4).writeTo(row).size());
        breaks(12, "ORIGIN 0 of one", row -> HandBlock.oneByte().sum(0).writeTo(row).size());
    }

    private static void fourAtTheEnd() {
        C.holds("Terms 3, RULES", "10 four like bytes at the end without the number behind");
        breaks(10, "four like bytes", row -> HandBlock.ofSign(97, new int[] {1, 0, 2}, 97, 97, 97, 97).writeTo(row).size());
        breaks(10, "four, number, four",
            row -> HandBlock.ofSign(3, null).sum(0).numbersFor(9).writeTo(row).size());
        for (int size : new int[] {1, 2, 3, 5, 6, 7, 8, 10}) {
            breaks(12, size + " like bytes", row -> HandBlock.ofSign(3, null).sum(0).numbersFor(size).writeTo(row).size());
        }
    }

    private static void outTooLong() {
        C.holds("Terms 3, RULES", "11 OUT would be above 3,000");
        breaks(11, "OUT above 3000", row -> HandBlock.ofSign(255, null).sum(0).numbersFor(60).writeTo(row).size());
        // 3,000 of two rows are not above; one byte behind them is.
        int[] most = Checks.join(new PlainPacker(Checks.times(1, 1500), 9).row.bytes(),
            new PlainPacker(Checks.times(2, 1500), 9).row.bytes());
        BitRow row = HandBlock.oneByte().writeTo(new BitRow().head(1));
        int read = most.length + (row.size() + 7) / 8;
        SortPacks x = Checks.fed(1, Checks.join(most, row.last(BitRow.sum(97)).bytes()));
        C.due("3001 bytes", x.open(), -10 - read);
        C.due("3001 bytes: rule", x.rule(), 11);
        C.due("3001 bytes: OUT", x.count(1), 3000);
        C.due("3001 bytes: blocks", x.block(-1, 0), 2);
        C.due("3001 bytes: alone", x.alone(2), 1);
        for (int size = 2999; size <= 3001; size++) {
            oneBlockOf(size);
        }
    }

    /** One BLOCK that is longer than an input of pack() can be; the second packer takes it. */
    private static void oneBlockOf(int size) {
        int[] input = Checks.join(Checks.times(251, 255 * 10), Checks.mixed(5, size - 2550, 200));
        int[] row = new PlainPacker(input, 9).row.bytes();
        SortPacks x = Checks.fed(1, row);
        boolean fits = size <= 3000;
        int open = x.open();
        C.due("one BLOCK of " + size, fits ? open : open < -10 ? 11 : 0, fits ? size : 11);
        C.due("one BLOCK of " + size + ": rule", x.rule(), fits ? 0 : 11);
        C.due("one BLOCK of " + size + ": OUT", x.count(1), fits ? size : 0);
        C.due("one BLOCK of " + size + ": alone", x.alone(0), fits ? size : open);
        C.due("one BLOCK of " + size + ": rule of alone", x.rule(), fits ? 0 : 11);
    }

    private static void sums() {
        C.holds("Terms 3, RULES", "12 the BLOCK's SUM");
        for (int bit = 0; bit < 32; bit++) {
            int turned = 1 << bit;
            breaks(12, "bit " + bit + " of it", row -> HandBlock.oneByte().sum(BitRow.sum(97) ^ turned).writeTo(row).size());
        }
    }

    private static void joinedSums() {
        C.holds("Terms 3, RULES", "13 THE JOINED SUM");
        for (int bit = 0; bit < 32; bit++) {
            int turned = 1 << bit;
            breaks(13, "bit " + bit + " of it",
                row -> row.put(48, BitRow.END_MARK).put(32, BitRow.sum(97) ^ turned).size());
        }
        // Each row begins with 0 again.
        int[] one = HandBlock.oneByte().writeTo(new BitRow().head(1)).last(BitRow.sum(97)).bytes();
        SortPacks x = Checks.fed(1, Checks.join(one, one));
        C.due("a second row", x.open(), 2);
        BitRow other = HandBlock.oneByte().writeTo(new BitRow().head(1));
        other.last(Integer.rotateLeft(BitRow.sum(97), 1) ^ BitRow.sum(97));
        Checks.feedAll(x, Checks.join(one, other.bytes()));
        C.due("joined with the row before", x.open(), -10 - one.length - other.size() / 8);
        C.due("joined with the row before: rule", x.rule(), 13);
        C.due("joined with the row before: OUT", x.count(1), 2);
    }

    private static void bitsBehind() {
        C.holds("Terms 3, RULES", "14 bits behind it that are no 0.");
        int tried = 0;
        for (int more = 0; more < 8; more++) {
            BitRow row = new BitRow().head(1);
            HandBlock.oneByte().choices(1 + more).writeTo(row);
            row.put(48, BitRow.END_MARK).put(32, BitRow.sum(97));
            int behind = (8 - row.size() % 8) % 8;
            for (int bad = 0; bad < behind; bad++) {
                int[] bytes = row.bytes();
                bytes[bytes.length - 1] |= 1 << bad;
                SortPacks x = Checks.fed(1, bytes);
                C.due("bit " + bad + " of " + behind, x.open(), -10 - bytes.length);
                C.due("bit " + bad + " of " + behind + ": rule", x.rule(), 14);
                C.due("bit " + bad + " of " + behind + ": OUT", x.count(1), 1);
                C.due("bit " + bad + " of " + behind + ": blocks", x.block(-1, 0), 1);
                tried++;
            }
        }
        C.due("1 to 7 bits behind were among them", tried, 1 + 2 + 3 + 4 + 5 + 6 + 7);
    }

    private static void order() {
        C.holds("Terms 3, RULES", "(10, then 11, then 12 when THE LAST was read.");
        breaks(9, "9 before 10", row -> HandBlock.ofSign(97, new int[] {1, 0, 2}).sum(5).origin(4).writeTo(row).size());
        breaks(9, "9 before 11", row -> HandBlock.ofSign(255, null).sum(5).numbersFor(65).origin(65).writeTo(row).size());
        breaks(9, "9 before 12", row -> HandBlock.oneByte().sum(5).origin(1).writeTo(row).size());
        breaks(10, "10 before 11", row -> HandBlock.ofSign(255, null).sum(5).numbersFor(64).writeTo(row).size());
        breaks(10, "10 before 12", row -> HandBlock.ofSign(97, new int[] {1, 0, 2}).sum(5).writeTo(row).size());
        breaks(11, "11 before 12", row -> HandBlock.ofSign(255, null).sum(5).numbersFor(65).writeTo(row).size());
    }

    private static void firstAsRead() {
        C.holds("Terms 3", "RULES (the first, as it is read)");
        HandBlock wrong = HandBlock.oneByte().sum(5).origin(9);
        wrong.bit = 1;
        breaks(4, "4 before 9 and 12", row -> {
            int from = row.size();
            wrong.writeTo(row);
            return from + 81;
        });
        breaks(5, "5 before 6", row -> {
            int bit = head(row).put(16, 0).size();
            row.put(3, 7);
            return bit;
        });
        breaks(6, "6 before 7", row -> {
            int bit = map(row).put(3, 2).put(15, 0).size();
            row.put(5, 0);
            return bit;
        });
        breaks(7, "7 before 8", row -> {
            int bit = chosen(row).put(5, 0).size();
            row.put("1".repeat(40));
            return bit;
        });
        breaks(8, "8 before 9", row -> {
            int bit = upTo(HandBlock.ofTwo(null).origin(500).choices(1), row).put("10".repeat(50)).size();
            row.put("11");
            return bit;
        });
        // 13 before 14: one bit behind THE JOINED SUM is 1, too.
        for (int more = 0; more < 8; more++) {
            BitRow row = new BitRow().head(1);
            HandBlock.oneByte().choices(1 + more).writeTo(row);
            row.put(48, BitRow.END_MARK).put(32, 5).put("1");
            SortPacks x = Checks.fed(1, row.bytes());
            x.open();
            C.due("13 before 14: rule", x.rule(), 13);
        }
    }
}
