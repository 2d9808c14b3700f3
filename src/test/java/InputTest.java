/** Promises 1 to 4, 8 to 10 and 12, sentence by sentence: a new object, and the input. */
public final class InputTest {
    private static final Checks C = new Checks("InputTest");
    private static final int MIN = Integer.MIN_VALUE;
    private static final int MAX = Integer.MAX_VALUE;

    public static void main(String[] args) {
        level();
        nothing();
        feed();
        feedFull();
        end();
        endBad();
        octets();
        octetsBad();
        octetsFull();
        pass();
        passFull();
        spoil();
        spoilBad();
        drop();
        dropBad();
        count();
        countBad();
        inputMost();
        apart();
        C.finish();
    }

    /** The input is seen by spoiling each byte twice. */
    private static int peek(SortPacks x, int i) {
        x.spoil(i, 255);
        return x.spoil(i, 255);
    }

    /** An input of so many bytes: 1, 2 .. 250, 0, 1 .. */
    private static SortPacks rising(int size) {
        int[] bytes = new int[size];
        for (int k = 0; k < size; k++) {
            bytes[k] = (k + 1) % 251;
        }
        return Checks.fed(1, bytes);
    }

    private static void level() {
        C.holds("Promise 1", "LEVEL 1 .. 9 (others as the nearest).");
        int[][] levels = {{1, 1}, {2, 2}, {3, 3}, {4, 4}, {5, 5}, {6, 6}, {7, 7}, {8, 8}, {9, 9},
            {0, 1}, {-1, 1}, {-9, 1}, {10, 9}, {11, 9}, {57, 9}, {MIN, 1}, {MAX, 9}, {MIN + 1, 1}};
        for (int[] level : levels) {
            SortPacks x = new SortPacks(level[0]);
            C.due("count(3) of level " + level[0], x.count(3), level[1]);
            x.pack();
            C.due("level " + level[0] + " is packed", x.out(3), 48 + level[1]);
        }
    }

    private static void nothing() {
        C.holds("Promise 1", "Nothing.");
        SortPacks x = new SortPacks(4);
        for (int what = 0; what < 3; what++) {
            C.due("count(" + what + ")", x.count(what), 0);
        }
        C.due("rule", x.rule(), 0);
        C.due("block(-1, 0)", x.block(-1, 0), 0);
        for (int what = 0; what < 9; what++) {
            C.due("block(0, " + what + ")", x.block(0, what), SortPacks.BAD);
        }
        C.due("sum(0)", x.sum(0), 0);
        C.due("choice(0)", x.choice(0), SortPacks.BAD);
        C.due("length(0, 0)", x.length(0, 0), SortPacks.BAD);
        C.due("mark(0)", x.mark(0), SortPacks.BAD);
        C.due("alone(0)", x.alone(0), SortPacks.BAD);
        C.due("spoil(0, 1)", x.spoil(0, 1), SortPacks.BAD);
        C.due("end(0)", x.end(0), SortPacks.BAD);
        C.due("end(20)", x.end(20), SortPacks.BAD);
        C.due("pass", x.pass(), 0);
        C.due("drop(0)", x.drop(0), 0);
        C.due("drop(1)", x.drop(1), SortPacks.BAD);
        C.dueNoByte(x, 0);
        C.dueNoByte(x, -1);
        C.due("open", x.open(), -10);
    }

    private static void feed() {
        C.holds("Promise 2", "Twenty bytes come behind the input, each number's highest one first: how many it has.");
        SortPacks x = new SortPacks(1);
        C.due("feed", x.feed(0x01020304, 0x80FF7F00, -1, 0, MIN), 20);
        int[] due = {1, 2, 3, 4, 128, 255, 127, 0, 255, 255, 255, 255, 0, 0, 0, 0, 128, 0, 0, 0};
        for (int i = 0; i < 20; i++) {
            C.due("byte " + i, peek(x, i), due[i]);
        }
        C.due("feed behind", x.feed(MAX, 5, 6, 7, 8), 40);
        C.due("byte 19 stays", peek(x, 19), 0);
        C.due("byte 20", peek(x, 20), 127);
        C.due("byte 39", peek(x, 39), 8);
        for (int n = 3; n <= 75; n++) {
            C.due("feed " + n, x.feed(n, n, n, n, n), 20 * n);
        }
    }

    private static void feedFull() {
        C.holds("Promise 2", "FULL: above 1,500.");
        for (int size = 1478; size <= 1500; size++) {
            SortPacks x = rising(size);
            boolean fits = size <= 1480;
            C.due("feed at " + size, x.feed(1, 1, 1, 1, 0x01010109), fits ? size + 20 : SortPacks.FULL);
            C.due("feed at " + size + ": the input", x.count(0), fits ? size + 20 : size);
            C.due("feed at " + size + ": its last", peek(x, x.count(0) - 1), fits ? 9 : size % 251);
            C.due("feed at " + size + ": none behind", x.spoil(x.count(0), 1), SortPacks.BAD);
        }
    }

    private static void end() {
        C.holds("Promise 3", "Of the last twenty bytes of the input the first n (0 .. 20) stay: how many it has.");
        for (int size : new int[] {20, 21, 40, 1500}) {
            for (int n = 0; n <= 20; n++) {
                SortPacks x = rising(size);
                int due = size - 20 + n;
                C.due("end(" + n + ") of " + size, x.end(n), due);
                C.due("end(" + n + ") of " + size + ": the input", x.count(0), due);
                C.due("end(" + n + ") of " + size + ": its last",
                    due == 0 ? 0 : peek(x, due - 1), due == 0 ? 0 : due % 251);
                C.due("end(" + n + ") of " + size + ": none behind", x.spoil(due, 1), SortPacks.BAD);
            }
        }
        SortPacks x = rising(45);
        C.due("end(3)", x.end(3), 28);
        C.due("end(0) behind end(3)", x.end(0), 8);
        C.due("eight are too few", x.end(0), SortPacks.BAD);
    }

    private static void endBad() {
        C.holds("Promise 3", "BAD: another n, or fewer than twenty are there.");
        SortPacks x = rising(50);
        for (int n : new int[] {-1, 21, -20, 256, MIN, MAX}) {
            C.due("end(" + n + ")", x.end(n), SortPacks.BAD);
        }
        C.due("the input stays", x.count(0), 50);
        for (int size : new int[] {0, 1, 18, 19, 20}) {
            for (int n : new int[] {0, 1, 19, 20}) {
                SortPacks y = rising(size);
                C.due("end(" + n + ") of " + size, y.end(n), size < 20 ? SortPacks.BAD : n);
                C.due("end(" + n + ") of " + size + ": the input", y.count(0), size < 20 ? size : n);
            }
        }
    }

    private static void octets() {
        C.holds("Promise 4", "A byte (its lowest 8 bits) comes behind the input, so many times (1 .. 400): how many it has.");
        for (int b : new int[] {0, 1, 127, 128, 255, 256, 257, 0x1234, -1, -2, -128, -129, MIN, MAX}) {
            SortPacks x = new SortPacks(1);
            C.due("octets(" + b + ", 1)", x.octets(b, 1), 1);
            C.due("octets(" + b + ", 1): the byte", peek(x, 0), b & 255);
        }
        for (int times : new int[] {1, 2, 399, 400}) {
            SortPacks x = rising(3);
            C.due("octets(300, " + times + ")", x.octets(300, times), 3 + times);
            C.due("octets(300, " + times + "): before", peek(x, 2), 3);
            C.due("octets(300, " + times + "): first", peek(x, 3), 44);
            C.due("octets(300, " + times + "): last", peek(x, 2 + times), 44);
            C.due("octets(300, " + times + "): none behind", x.spoil(3 + times, 1), SortPacks.BAD);
        }
    }

    private static void octetsBad() {
        C.holds("Promise 4", "BAD: another number.");
        for (int size : new int[] {0, 10, 1500}) {
            SortPacks x = rising(size);
            for (int times : new int[] {0, -1, 401, -400, MIN, MAX, 1 << 16, 1 << 8 << 8 << 8}) {
                C.due("octets(1, " + times + ") at " + size, x.octets(1, times), SortPacks.BAD);
            }
            C.due("the input stays " + size, x.count(0), size);
        }
    }

    private static void octetsFull() {
        C.holds("Promise 4", "FULL.");
        for (int times : new int[] {1, 2, 20, 399, 400}) {
            SortPacks x = rising(1501 - times);
            C.due("octets(7, " + times + ") to 1501", x.octets(7, times), SortPacks.FULL);
            C.due("octets(7, " + times + ") to 1501: the input", x.count(0), 1501 - times);
            C.due("octets(7, " + times + ") to 1501: none behind", x.spoil(1501 - times, 1), SortPacks.BAD);
            x.drop(1);
            C.due("octets(7, " + times + ") to 1500", x.octets(7, times), 1500);
            C.due("octets(7, " + times + ") to 1500: its last", peek(x, 1499), 7);
        }
    }

    private static void pass() {
        C.holds("Promise 8", "OUT comes behind the input (OUT stays): how many bytes it has.");
        SortPacks x = new SortPacks(1);
        C.due("nothing behind nothing", x.pass(), 0);
        x.octets(3, 5);
        C.due("nothing behind five", x.pass(), 5);
        x.drop(5);
        x.pack();
        C.due("pass", x.pass(), 14);
        C.due("OUT stays", x.count(1), 14);
        C.due("OUT stays", x.out(13), 0);
        x.octets(7, 1);
        C.due("behind the input", x.pass(), 29);
        C.due("byte 14", peek(x, 14), 7);
        C.due("byte 15", peek(x, 15), 66);
        C.due("byte 28", peek(x, 28), 0);
        x.spoil(15, 255);
        C.due("OUT is apart from the input", x.out(0), 66);
    }

    private static void passFull() {
        C.holds("Promise 8", "FULL: above 1,500.");
        for (int size = 1484; size <= 1500; size++) {
            SortPacks x = new SortPacks(1);
            x.pack();
            Checks.feedAll(x, Checks.times(9, size));
            boolean fits = size + 14 <= 1500;
            C.due("14 behind " + size, x.pass(), fits ? size + 14 : SortPacks.FULL);
            C.due("14 behind " + size + ": the input", x.count(0), fits ? size + 14 : size);
            C.due("14 behind " + size + ": its last", peek(x, x.count(0) - 1), fits ? 0 : 9);
            C.due("14 behind " + size + ": OUT stays", x.count(1), 14);
        }
        SortPacks x = rising(1500);
        C.due("nothing behind 1500", x.pass(), 1500);
        for (int size = 1499; size <= 1501; size++) {
            // Two rows of like bytes are opened to just so many.
            SortPacks y = Checks.fed(1, Checks.join(new PlainPacker(Checks.times(1, 1000), 9).row.bytes(),
                new PlainPacker(Checks.times(2, size - 1000), 9).row.bytes()));
            C.due("opened " + size, y.open(), size);
            C.due(size + " behind nothing", y.pass(), size <= 1500 ? size : SortPacks.FULL);
            C.due(size + " behind nothing: the input", y.count(0), size <= 1500 ? size : 0);
            C.due(size + " behind nothing: OUT stays", y.count(1), size);
        }
    }

    private static void spoil() {
        C.holds("Promise 9", "A byte of the input is xored: what it is.");
        SortPacks x = new SortPacks(1);
        x.octets(0xA5, 3);
        C.due("mask 255", x.spoil(1, 255), 0x5A);
        C.due("mask 1", x.spoil(1, 1), 0x5B);
        C.due("the first", x.spoil(0, 0x80), 0x25);
        C.due("the last", x.spoil(2, 4), 0xA1);
        C.due("others stay", x.spoil(1, 254), 0xA5);
        C.due("above 127", x.spoil(0, 0x80), 0xA5);
        SortPacks y = rising(1500);
        C.due("place 1499", y.spoil(1499, 255), 255 ^ 1500 % 251);
    }

    private static void spoilBad() {
        C.holds("Promise 9", "BAD: no such place, mask not 1 .. 255.");
        for (int size : new int[] {0, 1, 3, 1500}) {
            SortPacks x = rising(size);
            for (int i : new int[] {-1, size, size + 1, 1500, MIN, MAX}) {
                C.due("spoil(" + i + ", 1) of " + size, x.spoil(i, 1), SortPacks.BAD);
                C.due("spoil(" + i + ", 255) of " + size, x.spoil(i, 255), SortPacks.BAD);
            }
            for (int mask : new int[] {0, -1, 256, 257, 511, -255, MIN, MAX}) {
                C.due("spoil(0, " + mask + ") of " + size, x.spoil(0, mask), SortPacks.BAD);
            }
            C.due("the input stays " + size, x.count(0), size);
            C.due("the first of " + size + " stays", size == 0 ? 1 : peek(x, 0), 1);
        }
        SortPacks x = rising(9);
        x.drop(2);
        C.due("a place that went", x.spoil(7, 1), SortPacks.BAD);
    }

    private static void drop() {
        C.holds("Promise 10", "The first n bytes of the input go: how many it has.");
        SortPacks x = rising(1500);
        C.due("drop(0)", x.drop(0), 1500);
        C.due("drop(0): the first", peek(x, 0), 1);
        C.due("drop(1)", x.drop(1), 1499);
        C.due("drop(1): the first", peek(x, 0), 2);
        C.due("drop(1): the last", peek(x, 1498), 1500 % 251);
        C.due("drop(1490)", x.drop(1490), 9);
        C.due("drop(1490): the first", peek(x, 0), 1492 % 251);
        C.due("all go", x.drop(9), 0);
        C.due("none of none", x.drop(0), 0);
    }

    private static void dropBad() {
        C.holds("Promise 10", "BAD: it has not so many, n below 0.");
        for (int size : new int[] {0, 1, 5, 1500}) {
            SortPacks x = rising(size);
            for (int n : new int[] {size + 1, size + 2, -1, -size - 1, MIN, MAX}) {
                C.due("drop(" + n + ") of " + size, x.drop(n), SortPacks.BAD);
            }
            C.due("the input stays " + size, x.count(0), size);
            C.due("the first of " + size + " stays", size == 0 ? 1 : peek(x, 0), 1);
        }
    }

    private static void count() {
        C.holds("Promise 12", "How many bytes: 0 the input, 1 OUT, 2 what the last open() had, 3 LEVEL.");
        SortPacks x = new SortPacks(6);
        x.octets(1, 5);
        x.pack();
        x.pass();
        x.open();
        x.octets(9, 3);
        C.due("count(0)", x.count(0), 3);
        C.due("count(1)", x.count(1), 5);
        C.due("count(2)", x.count(2), 37);
        C.due("count(3)", x.count(3), 6);
        x.pack();
        C.due("pack() leaves what open() had", x.count(2), 37);
        x.octets(66, 2);
        x.open();
        C.due("what a broken open() had", x.count(2), 2);
        x.open();
        C.due("an open() that had nothing", x.count(2), 0);
        SortPacks y = rising(1500);
        C.due("1500 at most", y.count(0), 1500);
        y.open();
        C.due("1500 at most", y.count(2), 1500);
    }

    private static void countBad() {
        C.holds("Promise 12", "BAD: another number.");
        SortPacks x = rising(7);
        x.pack();
        for (int what : new int[] {-1, 4, 5, 256, MIN, MAX}) {
            C.due("count(" + what + ")", x.count(what), SortPacks.BAD);
        }
    }

    private static void inputMost() {
        C.holds("Terms", "Input: at most 1,500 bytes.");
        SortPacks x = rising(1500);
        C.due("1500 bytes", x.count(0), 1500);
        C.due("one byte more", x.octets(1, 1), SortPacks.FULL);
        C.due("twenty more", x.feed(1, 2, 3, 4, 5), SortPacks.FULL);
        C.due("1500 are packed", x.pack() > 0 ? 1 : 0, 1);
        C.due("there is place again", x.octets(1, 400), 400);
        SortPacks y = new SortPacks(9);
        for (int k = 1; k <= 3; k++) {
            C.due("octets", y.octets(k, 400), 400 * k);
        }
        C.due("octets", y.octets(4, 300), 1500);
        C.due("all of them are packed", y.pack() > 0 ? y.block(0, 1) : 0, 1500);
    }

    private static void apart() {
        C.holds("What it is", "An object is used for at most 512 calls after it has been made");
        SortPacks x = new SortPacks(1);
        SortPacks y = new SortPacks(1);
        x.octets(1, 8);
        x.pack();
        C.due("objects share nothing", y.count(0) + y.count(1) + y.block(-1, 0), 0);
        y.octets(1, 8);
        y.pack();
        C.dueBytes("same calls, same answers", Checks.outFrom(x, 0), Checks.outFrom(y, 0));
        SortPacks z = new SortPacks(9);
        for (int pair = 0; pair < 255; pair++) {
            z.octets(pair, 9);
            z.drop(9);
        }
        C.due("the 511th call", z.octets(1, 5), 5);
        C.due("the 512th call", z.pack(), 37);
    }
}
